section MG4x0
def F_Main_at (a1 N1 : Nat) (p2 : Int32) (M : gM) : Option (Int32) :=
  (if p2 < 0 then some 0 else (if (Int32.ofNat N1) ≤ p2 then some 0 else (if (p2 : Int32) < 0 ∨ N1 ≤ (p2 : Int32).toNatClampNeg then none else some (M a1 (p2 : Int32).toNatClampNeg))))
set_option maxHeartbeats 4000000 in
set_option maxRecDepth 20000 in
theorem f_Main_at {l : Launch} {ld : Nat} {M : gM} {L : gL} {Q : Option Value → gM → gL → gR → Prop} (hld : isLa ld) {a1 N1 : Nat} {p2 : Int32} (hs1 : SH a1 = (1, N1)) (ha1 : a1 < 447) (hN1 : N1 < 2 ^ 31) {q : Int32} (h : F_Main_at a1 N1 p2 M = some q) (hQ : Q (some (.int q)) M L (rf ld)) : Tm l y_Main_at (0, 0, 447) 447 [.ref a1, .int p2] M L (rf ld) Q := by
  refine Tm.of (by decide) (Nat.le_of_ble_eq_true rfl) ?_
  show Wp l y_Main_at (0, 0, 447) 447 0 0 0 [(0, .ref a1), (1, .int p2)] [] M L (rf ld) Q
  unfold F_Main_at at h
  refine g_iload_n (pc1 := 1) d_Main_at_0 rfl 1 rfl ?_
  refine g_if_lt (pc1 := 4) (tgt := 16) d_Main_at_1 (by decide) rfl (fun c1 => ?_) (fun c1 => ?_)
  · replace h := itp h c1
    refine g_iconst (pc1 := 17) (v := 0) d_Main_at_16 rfl (by decide) ?_
    refine g_ireturn (Or.inl rfl) d_Main_at_17 rfl ?_
    cases h; exact hQ
  · replace h := itn h c1
    refine g_iload_n (pc1 := 5) d_Main_at_4 rfl 1 rfl ?_
    refine g_aload_n (pc1 := 6) d_Main_at_5 rfl 0 rfl ?_
    refine g_alen (pc1 := 7) (v := Int32.ofNat N1) d_Main_at_6 rfl hs1 (by decide) (by decide) ha1 rfl ?_
    refine g_icmp_ge (pc1 := 10) (tgt := 16) d_Main_at_7 (by decide) rfl (fun c2 => ?_) (fun c2 => ?_)
    · replace h := itp h c2
      refine g_iconst (pc1 := 17) (v := 0) d_Main_at_16 rfl (by decide) ?_
      refine g_ireturn (Or.inl rfl) d_Main_at_17 rfl ?_
      cases h; exact hQ
    · replace h := itn h c2
      refine g_aload_n (pc1 := 11) d_Main_at_10 rfl 0 rfl ?_
      refine g_iload_n (pc1 := 12) d_Main_at_11 rfl 1 rfl ?_
      obtain ⟨g3, h⟩ := gdn h
      refine g_iald (pc1 := 13) d_Main_at_12 rfl hs1 ha1 g3 ?_
      refine g_goto (tgt := 17) d_Main_at_13 (by decide) ?_
      refine g_ireturn (Or.inl rfl) d_Main_at_17 rfl ?_
      cases h; exact hQ

def F_Main_back (p1 : Int32) (M : gM) : Option (Int32 × gM) :=
  (if p1 < 0 then some ((-1), M) else (if p1 ≤ (M 1 1) then nmM (uM M 1 1 ((M 1 1) - p1)) (fun M3 => some ((M3 1 1), M3)) else some ((-1), M)))
set_option maxHeartbeats 4000000 in
set_option maxRecDepth 20000 in
theorem f_Main_back {l : Launch} {ld : Nat} {M : gM} {L : gL} {Q : Option Value → gM → gL → gR → Prop} (hld : isLa ld) {p1 : Int32}  {q : Int32 × gM} (h : F_Main_back p1 M = some q) (hQ : Q (some (.int q.1)) q.2 L (rf ld)) : Tm l y_Main_back (0, 0, 447) 447 [.ref 0, .int p1] M L (rf ld) Q := by
  refine Tm.of (by decide) (Nat.le_of_ble_eq_true rfl) ?_
  show Wp l y_Main_back (0, 0, 447) 447 0 0 0 [(0, .ref 0), (1, .int p1)] [] M L (rf ld) Q
  unfold F_Main_back at h
  refine g_iload_n (pc1 := 1) d_Main_back_0 rfl 1 rfl ?_
  refine g_if_lt (pc1 := 4) (tgt := 15) d_Main_back_1 (by decide) rfl (fun c1 => ?_) (fun c1 => ?_)
  · replace h := itp h c1
    refine g_iconst (pc1 := 16) (v := (-1)) d_Main_back_15 rfl (by decide) ?_
    refine g_ireturn (Or.inl rfl) d_Main_back_16 rfl ?_
    cases h; exact hQ
  · replace h := itn h c1
    refine g_iload_n (pc1 := 5) d_Main_back_4 rfl 1 rfl ?_
    refine g_aload_n (pc1 := 6) d_Main_back_5 rfl 0 rfl ?_
    refine g_getr (pc1 := 9) d_Main_back_6 rfl ⟨_, fo_Main_12⟩ sh_0 (by decide) (rf_0_0 ld) ?_
    refine g_geti (pc1 := 12) d_Main_back_9 rfl ⟨_, fo_Main_82⟩ sh_1 (by decide) ?_
    refine g_icmp_le (pc1 := 15) (tgt := 17) d_Main_back_12 (by decide) rfl (fun c2 => ?_) (fun c2 => ?_)
    · replace h := itp h c2
      refine g_aload_n (pc1 := 18) d_Main_back_17 rfl 0 rfl ?_
      refine g_getr (pc1 := 21) d_Main_back_18 rfl ⟨_, fo_Main_12⟩ sh_0 (by decide) (rf_0_0 ld) ?_
      refine g_dup (pc1 := 22) d_Main_back_21 rfl rfl ?_
      refine g_geti (pc1 := 25) d_Main_back_22 rfl ⟨_, fo_Main_82⟩ sh_1 (by decide) ?_
      refine g_iload_n (pc1 := 26) d_Main_back_25 rfl 1 rfl ?_
      refine g_isub (pc1 := 27) d_Main_back_26 rfl ?_
      refine g_puti (pc1 := 30) d_Main_back_27 rfl fo_Main_82 (po_1_1 _) sh_1 (by decide) ?_
      refine Wp.lM h (fun M3 h => ?_)
      refine g_aload_n (pc1 := 31) d_Main_back_30 rfl 0 rfl ?_
      refine g_getr (pc1 := 34) d_Main_back_31 rfl ⟨_, fo_Main_12⟩ sh_0 (by decide) (rf_0_0 ld) ?_
      refine g_geti (pc1 := 37) d_Main_back_34 rfl ⟨_, fo_Main_82⟩ sh_1 (by decide) ?_
      refine g_ireturn (Or.inl rfl) d_Main_back_37 rfl ?_
      cases h; exact hQ
    · replace h := itn h c2
      refine g_iconst (pc1 := 16) (v := (-1)) d_Main_back_15 rfl (by decide) ?_
      refine g_ireturn (Or.inl rfl) d_Main_back_16 rfl ?_
      cases h; exact hQ

def B_Main_copyRow_2 (a1 N1 : Nat) (a2 N2 : Nat) (K2 : Int32 → gM → Option (gM)) : Int32 → gM → Option (gM) := fun v2 M =>
  (if (Int32.ofNat N1) ≤ v2 then some M else (if (Int32.ofNat N2) ≤ v2 then some M else (if (v2 : Int32) < 0 ∨ N1 ≤ (v2 : Int32).toNatClampNeg then none else (if (v2 : Int32) < 0 ∨ N2 ≤ (v2 : Int32).toNatClampNeg then none else nmM (uM M a2 (v2 : Int32).toNatClampNeg (M a1 (v2 : Int32).toNatClampNeg)) (fun M5 => nmI (v2 + 1) (fun x6 => K2 x6 M5))))))
def H_Main_copyRow_2 (a1 N1 : Nat) (a2 N2 : Nat) : Nat → Int32 → gM → Option (gM) := lpK (B_Main_copyRow_2 a1 N1 a2 N2) (fun _ _ => none)
set_option maxHeartbeats 4000000 in
set_option maxRecDepth 20000 in
theorem h_Main_copyRow_2 {l : Launch} {ld : Nat} {Q : Option Value → gM → gL → gR → Prop} (hld : isLa ld) {a1 N1 : Nat} {a2 N2 : Nat} (hs1 : SH a1 = (1, N1)) (ha1 : a1 < 447) (hN1 : N1 < 2 ^ 31) (hs2 : SH a2 = (1, N2)) (ha2 : a2 < 447) (hN2 : N2 < 2 ^ 31) {q : gM} {L : gL} (hQ : Q none q L (rf ld))    : ∀ (f : Nat) (v2 : Int32) (M : gM), H_Main_copyRow_2 a1 N1 a2 N2 f v2 M = some q → Wp l y_Main_copyRow (0, 0, 447) 447 0 0 2 [(0, .ref a1), (1, .ref a2), (2, .int v2)] [] M L (rf ld) Q := by
  intro f
  induction f with
  | zero => intro v2 M h; cases h
  | succ f hK2 =>
    intro v2 M h
    replace h : B_Main_copyRow_2 a1 N1 a2 N2 (H_Main_copyRow_2 a1 N1 a2 N2 f) v2 M = some q := h
    unfold B_Main_copyRow_2 at h
    refine g_iload_n (pc1 := 3) d_Main_copyRow_2 rfl 2 rfl ?_
    refine g_aload_n (pc1 := 4) d_Main_copyRow_3 rfl 0 rfl ?_
    refine g_alen (pc1 := 5) (v := Int32.ofNat N1) d_Main_copyRow_4 rfl hs1 (by decide) (by decide) ha1 rfl ?_
    refine g_icmp_ge (pc1 := 8) (tgt := 26) d_Main_copyRow_5 (by decide) rfl (fun c1 => ?_) (fun c1 => ?_)
    · replace h := itp h c1
      refine g_return rfl d_Main_copyRow_26 rfl ?_
      cases h; exact hQ
    · replace h := itn h c1
      refine g_iload_n (pc1 := 9) d_Main_copyRow_8 rfl 2 rfl ?_
      refine g_aload_n (pc1 := 10) d_Main_copyRow_9 rfl 1 rfl ?_
      refine g_alen (pc1 := 11) (v := Int32.ofNat N2) d_Main_copyRow_10 rfl hs2 (by decide) (by decide) ha2 rfl ?_
      refine g_icmp_ge (pc1 := 14) (tgt := 26) d_Main_copyRow_11 (by decide) rfl (fun c2 => ?_) (fun c2 => ?_)
      · replace h := itp h c2
        refine g_return rfl d_Main_copyRow_26 rfl ?_
        cases h; exact hQ
      · replace h := itn h c2
        refine g_aload_n (pc1 := 15) d_Main_copyRow_14 rfl 1 rfl ?_
        refine g_iload_n (pc1 := 16) d_Main_copyRow_15 rfl 2 rfl ?_
        refine g_aload_n (pc1 := 17) d_Main_copyRow_16 rfl 0 rfl ?_
        refine g_iload_n (pc1 := 18) d_Main_copyRow_17 rfl 2 rfl ?_
        obtain ⟨g3, h⟩ := gdn h
        refine g_iald (pc1 := 19) d_Main_copyRow_18 rfl hs1 ha1 g3 ?_
        obtain ⟨g4, h⟩ := gdn h
        refine g_iast (pc1 := 20) d_Main_copyRow_19 rfl hs2 ha2 g4 ?_
        refine Wp.lM h (fun M5 h => ?_)
        obtain ⟨x6, ex6, h⟩ := ltI h
        refine g_iinc (pc1 := 23) (v := x6) (lv' := [(0, .ref a1), (1, .ref a2), (2, .int x6)]) d_Main_copyRow_20 rfl 2 rfl (by rw [ex6]; rfl) (by decide) [1, 2, 0] rfl ?_
        refine g_goto (tgt := 2) d_Main_copyRow_23 (by decide) ?_
        exact hK2 x6 M5 h
def F_Main_copyRow (a1 N1 : Nat) (a2 N2 : Nat) (M : gM) : Option (gM) :=
  H_Main_copyRow_2 a1 N1 a2 N2 FU 0 M
set_option maxHeartbeats 4000000 in
set_option maxRecDepth 20000 in
theorem f_Main_copyRow {l : Launch} {ld : Nat} {M : gM} {L : gL} {Q : Option Value → gM → gL → gR → Prop} (hld : isLa ld) {a1 N1 : Nat} {a2 N2 : Nat} (hs1 : SH a1 = (1, N1)) (ha1 : a1 < 447) (hN1 : N1 < 2 ^ 31) (hs2 : SH a2 = (1, N2)) (ha2 : a2 < 447) (hN2 : N2 < 2 ^ 31) {q : gM} (h : F_Main_copyRow a1 N1 a2 N2 M = some q) (hQ : Q none q L (rf ld)) : Tm l y_Main_copyRow (0, 0, 447) 447 [.ref a1, .ref a2] M L (rf ld) Q := by
  refine Tm.of (by decide) (Nat.le_of_ble_eq_true rfl) ?_
  show Wp l y_Main_copyRow (0, 0, 447) 447 0 0 0 [(0, .ref a1), (1, .ref a2)] [] M L (rf ld) Q
  unfold F_Main_copyRow at h
  refine g_iconst (pc1 := 1) (v := 0) d_Main_copyRow_0 rfl (by decide) ?_
  refine g_istore_n (pc1 := 2) (lv' := [(0, .ref a1), (1, .ref a2), (2, .int 0)]) d_Main_copyRow_1 rfl rfl (by decide) [1, 2, 0] rfl ?_
  exact h_Main_copyRow_2 hld hs1 ha1 hN1 hs2 ha2 hN2 hQ  _ 0 M h

def F_Main_hasBit (p1 : Int32) (p2 : Int32) : Option (Int32) :=
  (if ((p1 >>> (p2 &&& 31)) &&& 1) = 0 then some 0 else some 1)
set_option maxHeartbeats 4000000 in
set_option maxRecDepth 20000 in
theorem f_Main_hasBit {l : Launch} {ld : Nat} {M : gM} {L : gL} {Q : Option Value → gM → gL → gR → Prop} (hld : isLa ld) {p1 : Int32} {p2 : Int32}  {q : Int32} (h : F_Main_hasBit p1 p2 = some q) (hQ : Q (some (.int q)) M L (rf ld)) : Tm l y_Main_hasBit (0, 0, 447) 447 [.int p1, .int p2] M L (rf ld) Q := by
  refine Tm.of (by decide) (Nat.le_of_ble_eq_true rfl) ?_
  show Wp l y_Main_hasBit (0, 0, 447) 447 0 0 0 [(0, .int p1), (1, .int p2)] [] M L (rf ld) Q
  unfold F_Main_hasBit at h
  refine g_iload_n (pc1 := 1) d_Main_hasBit_0 rfl 0 rfl ?_
  refine g_iload_n (pc1 := 2) d_Main_hasBit_1 rfl 1 rfl ?_
  refine g_ishr (pc1 := 3) d_Main_hasBit_2 rfl ?_
  refine g_iconst (pc1 := 4) (v := 1) d_Main_hasBit_3 rfl (by decide) ?_
  refine g_iand (pc1 := 5) d_Main_hasBit_4 rfl ?_
  refine g_if_eq (pc1 := 8) (tgt := 12) d_Main_hasBit_5 (by decide) rfl (fun c1 => ?_) (fun c1 => ?_)
  · replace h := itp h c1
    refine g_iconst (pc1 := 13) (v := 0) d_Main_hasBit_12 rfl (by decide) ?_
    refine g_ireturn (Or.inr ⟨rfl, rfl⟩) d_Main_hasBit_13 rfl ?_
    cases h; exact hQ
  · replace h := itn h c1
    refine g_iconst (pc1 := 9) (v := 1) d_Main_hasBit_8 rfl (by decide) ?_
    refine g_goto (tgt := 13) d_Main_hasBit_9 (by decide) ?_
    refine g_ireturn (Or.inr ⟨rfl, rfl⟩) d_Main_hasBit_13 rfl ?_
    cases h; exact hQ

def F_Main_isOne (p1 : Int32) (p2 : Int32) : Option (Int32) :=
  (if p1 < 0 then some 0 else (if p2 ≤ p1 then some 0 else some 1))
set_option maxHeartbeats 4000000 in
set_option maxRecDepth 20000 in
theorem f_Main_isOne {l : Launch} {ld : Nat} {M : gM} {L : gL} {Q : Option Value → gM → gL → gR → Prop} (hld : isLa ld) {p1 : Int32} {p2 : Int32}  {q : Int32} (h : F_Main_isOne p1 p2 = some q) (hQ : Q (some (.int q)) M L (rf ld)) : Tm l y_Main_isOne (0, 0, 447) 447 [.int p1, .int p2] M L (rf ld) Q := by
  refine Tm.of (by decide) (Nat.le_of_ble_eq_true rfl) ?_
  show Wp l y_Main_isOne (0, 0, 447) 447 0 0 0 [(0, .int p1), (1, .int p2)] [] M L (rf ld) Q
  unfold F_Main_isOne at h
  refine g_iload_n (pc1 := 1) d_Main_isOne_0 rfl 0 rfl ?_
  refine g_if_lt (pc1 := 4) (tgt := 13) d_Main_isOne_1 (by decide) rfl (fun c1 => ?_) (fun c1 => ?_)
  · replace h := itp h c1
    refine g_iconst (pc1 := 14) (v := 0) d_Main_isOne_13 rfl (by decide) ?_
    refine g_ireturn (Or.inr ⟨rfl, rfl⟩) d_Main_isOne_14 rfl ?_
    cases h; exact hQ
  · replace h := itn h c1
    refine g_iload_n (pc1 := 5) d_Main_isOne_4 rfl 0 rfl ?_
    refine g_iload_n (pc1 := 6) d_Main_isOne_5 rfl 1 rfl ?_
    refine g_icmp_ge (pc1 := 9) (tgt := 13) d_Main_isOne_6 (by decide) rfl (fun c2 => ?_) (fun c2 => ?_)
    · replace h := itp h c2
      refine g_iconst (pc1 := 14) (v := 0) d_Main_isOne_13 rfl (by decide) ?_
      refine g_ireturn (Or.inr ⟨rfl, rfl⟩) d_Main_isOne_14 rfl ?_
      cases h; exact hQ
    · replace h := itn h c2
      refine g_iconst (pc1 := 10) (v := 1) d_Main_isOne_9 rfl (by decide) ?_
      refine g_goto (tgt := 14) d_Main_isOne_10 (by decide) ?_
      refine g_ireturn (Or.inr ⟨rfl, rfl⟩) d_Main_isOne_14 rfl ?_
      cases h; exact hQ

def F_Main_place (M : gM) : Option (Int32) :=
  some (M 0 11)
set_option maxHeartbeats 4000000 in
set_option maxRecDepth 20000 in
theorem f_Main_place {l : Launch} {ld : Nat} {M : gM} {L : gL} {Q : Option Value → gM → gL → gR → Prop} (hld : isLa ld)   {q : Int32} (h : F_Main_place M = some q) (hQ : Q (some (.int q)) M L (rf ld)) : Tm l y_Main_place (0, 0, 447) 447 [.ref 0] M L (rf ld) Q := by
  refine Tm.of (by decide) (Nat.le_of_ble_eq_true rfl) ?_
  show Wp l y_Main_place (0, 0, 447) 447 0 0 0 [(0, .ref 0)] [] M L (rf ld) Q
  unfold F_Main_place at h
  refine g_aload_n (pc1 := 1) d_Main_place_0 rfl 0 rfl ?_
  refine g_geti (pc1 := 4) d_Main_place_1 rfl ⟨_, fo_Main_78⟩ sh_0 (by decide) ?_
  refine g_ireturn (Or.inl rfl) d_Main_place_4 rfl ?_
  cases h; exact hQ

def F_Main_put (a1 N1 : Nat) (p2 : Int32) (p3 : Int32) (M : gM) : Option (gM) :=
  (if p2 < 0 then some M else (if (Int32.ofNat N1) ≤ p2 then some M else (if (p2 : Int32) < 0 ∨ N1 ≤ (p2 : Int32).toNatClampNeg then none else nmM (uM M a1 (p2 : Int32).toNatClampNeg p3) (fun M4 => some M4))))
set_option maxHeartbeats 4000000 in
set_option maxRecDepth 20000 in
theorem f_Main_put {l : Launch} {ld : Nat} {M : gM} {L : gL} {Q : Option Value → gM → gL → gR → Prop} (hld : isLa ld) {a1 N1 : Nat} {p2 : Int32} {p3 : Int32} (hs1 : SH a1 = (1, N1)) (ha1 : a1 < 447) (hN1 : N1 < 2 ^ 31) {q : gM} (h : F_Main_put a1 N1 p2 p3 M = some q) (hQ : Q none q L (rf ld)) : Tm l y_Main_put (0, 0, 447) 447 [.ref a1, .int p2, .int p3] M L (rf ld) Q := by
  refine Tm.of (by decide) (Nat.le_of_ble_eq_true rfl) ?_
  show Wp l y_Main_put (0, 0, 447) 447 0 0 0 [(0, .ref a1), (1, .int p2), (2, .int p3)] [] M L (rf ld) Q
  unfold F_Main_put at h
  refine g_iload_n (pc1 := 1) d_Main_put_0 rfl 1 rfl ?_
  refine g_if_lt (pc1 := 4) (tgt := 14) d_Main_put_1 (by decide) rfl (fun c1 => ?_) (fun c1 => ?_)
  · replace h := itp h c1
    refine g_return rfl d_Main_put_14 rfl ?_
    cases h; exact hQ
  · replace h := itn h c1
    refine g_iload_n (pc1 := 5) d_Main_put_4 rfl 1 rfl ?_
    refine g_aload_n (pc1 := 6) d_Main_put_5 rfl 0 rfl ?_
    refine g_alen (pc1 := 7) (v := Int32.ofNat N1) d_Main_put_6 rfl hs1 (by decide) (by decide) ha1 rfl ?_
    refine g_icmp_ge (pc1 := 10) (tgt := 14) d_Main_put_7 (by decide) rfl (fun c2 => ?_) (fun c2 => ?_)
    · replace h := itp h c2
      refine g_return rfl d_Main_put_14 rfl ?_
      cases h; exact hQ
    · replace h := itn h c2
      refine g_aload_n (pc1 := 11) d_Main_put_10 rfl 0 rfl ?_
      refine g_iload_n (pc1 := 12) d_Main_put_11 rfl 1 rfl ?_
      refine g_iload_n (pc1 := 13) d_Main_put_12 rfl 2 rfl ?_
      obtain ⟨g3, h⟩ := gdn h
      refine g_iast (pc1 := 14) d_Main_put_13 rfl hs1 ha1 g3 ?_
      refine Wp.lM h (fun M4 h => ?_)
      refine g_return rfl d_Main_put_14 rfl ?_
      cases h; exact hQ

def B_Main_wipe_2 (a1 N1 : Nat) (K2 : Int32 → gM → Option (gM)) : Int32 → gM → Option (gM) := fun v1 M =>
  (if (Int32.ofNat N1) ≤ v1 then some M else (if (v1 : Int32) < 0 ∨ N1 ≤ (v1 : Int32).toNatClampNeg then none else nmM (uM M a1 (v1 : Int32).toNatClampNeg 0) (fun M3 => nmI (v1 + 1) (fun x4 => K2 x4 M3))))
def H_Main_wipe_2 (a1 N1 : Nat) : Nat → Int32 → gM → Option (gM) := lpK (B_Main_wipe_2 a1 N1) (fun _ _ => none)
set_option maxHeartbeats 4000000 in
set_option maxRecDepth 20000 in
theorem h_Main_wipe_2 {l : Launch} {ld : Nat} {Q : Option Value → gM → gL → gR → Prop} (hld : isLa ld) {a1 N1 : Nat} (hs1 : SH a1 = (1, N1)) (ha1 : a1 < 447) (hN1 : N1 < 2 ^ 31) {q : gM} {L : gL} (hQ : Q none q L (rf ld))    : ∀ (f : Nat) (v1 : Int32) (M : gM), H_Main_wipe_2 a1 N1 f v1 M = some q → Wp l y_Main_wipe (0, 0, 447) 447 0 0 2 [(0, .ref a1), (1, .int v1)] [] M L (rf ld) Q := by
  intro f
  induction f with
  | zero => intro v1 M h; cases h
  | succ f hK2 =>
    intro v1 M h
    replace h : B_Main_wipe_2 a1 N1 (H_Main_wipe_2 a1 N1 f) v1 M = some q := h
    unfold B_Main_wipe_2 at h
    refine g_iload_n (pc1 := 3) d_Main_wipe_2 rfl 1 rfl ?_
    refine g_aload_n (pc1 := 4) d_Main_wipe_3 rfl 0 rfl ?_
    refine g_alen (pc1 := 5) (v := Int32.ofNat N1) d_Main_wipe_4 rfl hs1 (by decide) (by decide) ha1 rfl ?_
    refine g_icmp_ge (pc1 := 8) (tgt := 18) d_Main_wipe_5 (by decide) rfl (fun c1 => ?_) (fun c1 => ?_)
    · replace h := itp h c1
      refine g_return rfl d_Main_wipe_18 rfl ?_
      cases h; exact hQ
    · replace h := itn h c1
      refine g_aload_n (pc1 := 9) d_Main_wipe_8 rfl 0 rfl ?_
      refine g_iload_n (pc1 := 10) d_Main_wipe_9 rfl 1 rfl ?_
      refine g_iconst (pc1 := 11) (v := 0) d_Main_wipe_10 rfl (by decide) ?_
      obtain ⟨g2, h⟩ := gdn h
      refine g_iast (pc1 := 12) d_Main_wipe_11 rfl hs1 ha1 g2 ?_
      refine Wp.lM h (fun M3 h => ?_)
      obtain ⟨x4, ex4, h⟩ := ltI h
      refine g_iinc (pc1 := 15) (v := x4) (lv' := [(0, .ref a1), (1, .int x4)]) d_Main_wipe_12 rfl 1 rfl (by rw [ex4]; rfl) (by decide) [1, 0] rfl ?_
      refine g_goto (tgt := 2) d_Main_wipe_15 (by decide) ?_
      exact hK2 x4 M3 h
def F_Main_wipe (a1 N1 : Nat) (M : gM) : Option (gM) :=
  H_Main_wipe_2 a1 N1 FU 0 M
set_option maxHeartbeats 4000000 in
set_option maxRecDepth 20000 in
theorem f_Main_wipe {l : Launch} {ld : Nat} {M : gM} {L : gL} {Q : Option Value → gM → gL → gR → Prop} (hld : isLa ld) {a1 N1 : Nat} (hs1 : SH a1 = (1, N1)) (ha1 : a1 < 447) (hN1 : N1 < 2 ^ 31) {q : gM} (h : F_Main_wipe a1 N1 M = some q) (hQ : Q none q L (rf ld)) : Tm l y_Main_wipe (0, 0, 447) 447 [.ref a1] M L (rf ld) Q := by
  refine Tm.of (by decide) (Nat.le_of_ble_eq_true rfl) ?_
  show Wp l y_Main_wipe (0, 0, 447) 447 0 0 0 [(0, .ref a1)] [] M L (rf ld) Q
  unfold F_Main_wipe at h
  refine g_iconst (pc1 := 1) (v := 0) d_Main_wipe_0 rfl (by decide) ?_
  refine g_istore_n (pc1 := 2) (lv' := [(0, .ref a1), (1, .int 0)]) d_Main_wipe_1 rfl rfl (by decide) [1, 0] rfl ?_
  exact h_Main_wipe_2 hld hs1 ha1 hN1 hQ  _ 0 M h

def F_Land_stirred (p1 : Int32) (p2 : Int32) : Option (Int32) :=
  nmI (((p1 ^^^ p2) * 1103515245) + 12345) (fun x1 => some (x1 ^^^ ((x1.toUInt32 >>> ((15 : Int32).toUInt32 &&& Int32.toUInt32 31)).toInt32)))
set_option maxHeartbeats 4000000 in
set_option maxRecDepth 20000 in
theorem f_Land_stirred {l : Launch} {ld : Nat} {M : gM} {L : gL} {Q : Option Value → gM → gL → gR → Prop} (hld : isLa ld) {p1 : Int32} {p2 : Int32}  {q : Int32} (h : F_Land_stirred p1 p2 = some q) (hQ : Q (some (.int q)) M L (rf ld)) : Tm l y_Land_stirred (0, 0, 447) 447 [.int p1, .int p2] M L (rf ld) Q := by
  refine Tm.of (by decide) (Nat.le_of_ble_eq_true rfl) ?_
  show Wp l y_Land_stirred (0, 0, 447) 447 0 0 0 [(0, .int p1), (1, .int p2)] [] M L (rf ld) Q
  unfold F_Land_stirred at h
  refine g_iload_n (pc1 := 1) d_Land_stirred_0 rfl 0 rfl ?_
  refine g_iload_n (pc1 := 2) d_Land_stirred_1 rfl 1 rfl ?_
  refine g_ixor (pc1 := 3) d_Land_stirred_2 rfl ?_
  refine g_ldc (pc1 := 5) (v := 1103515245) d_Land_stirred_3 rfl co_Land_133 ?_
  refine g_imul (pc1 := 6) d_Land_stirred_5 rfl ?_
  refine g_sipush (pc1 := 9) (v := 12345) d_Land_stirred_6 rfl (by decide) ?_
  refine g_iadd (pc1 := 10) d_Land_stirred_9 rfl ?_
  refine Wp.lI h (fun x1 h => ?_)
  refine g_istore_n (pc1 := 11) (lv' := [(0, .int p1), (1, .int p2), (2, .int x1)]) d_Land_stirred_10 rfl rfl (by decide) [1, 2, 0] rfl ?_
  refine g_iload_n (pc1 := 12) d_Land_stirred_11 rfl 2 rfl ?_
  refine g_iload_n (pc1 := 13) d_Land_stirred_12 rfl 2 rfl ?_
  refine g_bipush (pc1 := 15) (v := 15) d_Land_stirred_13 rfl (by decide) ?_
  refine g_iushr (pc1 := 16) d_Land_stirred_15 rfl ?_
  refine g_ixor (pc1 := 17) d_Land_stirred_16 rfl ?_
  refine g_ireturn (Or.inl rfl) d_Land_stirred_17 rfl ?_
  cases h; exact hQ

def F_Law_add (Wl0 : Nat) (p1 : Int32) (M : gM) : Option (gM) :=
  (if (M Wl0 1) < 0 then some M else (if 400 ≤ (M Wl0 1) then some M else (if ((M Wl0 1) : Int32) < 0 ∨ 400 ≤ ((M Wl0 1) : Int32).toNatClampNeg then none else nmM (uM M (Wl0 + 1) ((M Wl0 1) : Int32).toNatClampNeg p1) (fun M4 => nmM (uM M4 Wl0 1 ((M4 Wl0 1) + 1)) (fun M5 => some M5)))))
set_option maxHeartbeats 4000000 in
set_option maxRecDepth 20000 in
theorem f_Law_add {l : Launch} {ld : Nat} {M : gM} {L : gL} {Q : Option Value → gM → gL → gR → Prop} (hld : isLa ld) {Wl0 : Nat} {p1 : Int32} (hWl0 : isLw Wl0) {q : gM} (h : F_Law_add Wl0 p1 M = some q) (hQ : Q none q L (rf ld)) : Tm l y_Law_add (0, 0, 447) 447 [.ref Wl0, .int p1] M L (rf ld) Q := by
  refine Tm.of (by decide) (Nat.le_of_ble_eq_true rfl) ?_
  show Wp l y_Law_add (0, 0, 447) 447 0 0 0 [(0, .ref Wl0), (1, .int p1)] [] M L (rf ld) Q
  unfold F_Law_add at h
  refine g_aload_n (pc1 := 1) d_Law_add_0 rfl 0 rfl ?_
  refine g_geti (pc1 := 4) d_Law_add_1 rfl ⟨_, fo_Law_21⟩ (shLw_0 hWl0) (ltLw_0 hWl0) ?_
  refine g_if_lt (pc1 := 7) (tgt := 39) d_Law_add_4 (by decide) rfl (fun c1 => ?_) (fun c1 => ?_)
  · replace h := itp h c1
    refine g_return rfl d_Law_add_39 rfl ?_
    cases h; exact hQ
  · replace h := itn h c1
    refine g_aload_n (pc1 := 8) d_Law_add_7 rfl 0 rfl ?_
    refine g_geti (pc1 := 11) d_Law_add_8 rfl ⟨_, fo_Law_21⟩ (shLw_0 hWl0) (ltLw_0 hWl0) ?_
    refine g_aload_n (pc1 := 12) d_Law_add_11 rfl 0 rfl ?_
    refine g_getr (pc1 := 15) d_Law_add_12 rfl ⟨_, fo_Law_11⟩ (shLw_0 hWl0) (ltLw_0 hWl0) (rfLw_0 ld hWl0) ?_
    refine g_alen (pc1 := 16) (v := 400) d_Law_add_15 rfl (shLw_1 hWl0) (by decide) (by decide) (ltLw_1 hWl0) (by decide) ?_
    refine g_icmp_ge (pc1 := 19) (tgt := 39) d_Law_add_16 (by decide) rfl (fun c2 => ?_) (fun c2 => ?_)
    · replace h := itp h c2
      refine g_return rfl d_Law_add_39 rfl ?_
      cases h; exact hQ
    · replace h := itn h c2
      refine g_aload_n (pc1 := 20) d_Law_add_19 rfl 0 rfl ?_
      refine g_getr (pc1 := 23) d_Law_add_20 rfl ⟨_, fo_Law_11⟩ (shLw_0 hWl0) (ltLw_0 hWl0) (rfLw_0 ld hWl0) ?_
      refine g_aload_n (pc1 := 24) d_Law_add_23 rfl 0 rfl ?_
      refine g_geti (pc1 := 27) d_Law_add_24 rfl ⟨_, fo_Law_21⟩ (shLw_0 hWl0) (ltLw_0 hWl0) ?_
      refine g_iload_n (pc1 := 28) d_Law_add_27 rfl 1 rfl ?_
      obtain ⟨g3, h⟩ := gdn h
      refine g_iast (pc1 := 29) d_Law_add_28 rfl (shLw_1 hWl0) (ltLw_1 hWl0) g3 ?_
      refine Wp.lM h (fun M4 h => ?_)
      refine g_aload_n (pc1 := 30) d_Law_add_29 rfl 0 rfl ?_
      refine g_dup (pc1 := 31) d_Law_add_30 rfl rfl ?_
      refine g_geti (pc1 := 34) d_Law_add_31 rfl ⟨_, fo_Law_21⟩ (shLw_0 hWl0) (ltLw_0 hWl0) ?_
      refine g_iconst (pc1 := 35) (v := 1) d_Law_add_34 rfl (by decide) ?_
      refine g_iadd (pc1 := 36) d_Law_add_35 rfl ?_
      refine g_puti (pc1 := 39) d_Law_add_36 rfl fo_Law_21 (po_5_1 _) (shLw_0 hWl0) (ltLw_0 hWl0) ?_
      refine Wp.lM h (fun M5 h => ?_)
      refine g_return rfl d_Law_add_39 rfl ?_
      cases h; exact hQ

def F_Law_clear (Wl0 : Nat) (M : gM) : Option (gM) :=
  nmM (uM M Wl0 1 0) (fun M1 => some M1)
set_option maxHeartbeats 4000000 in
set_option maxRecDepth 20000 in
theorem f_Law_clear {l : Launch} {ld : Nat} {M : gM} {L : gL} {Q : Option Value → gM → gL → gR → Prop} (hld : isLa ld) {Wl0 : Nat} (hWl0 : isLw Wl0) {q : gM} (h : F_Law_clear Wl0 M = some q) (hQ : Q none q L (rf ld)) : Tm l y_Law_clear (0, 0, 447) 447 [.ref Wl0] M L (rf ld) Q := by
  refine Tm.of (by decide) (Nat.le_of_ble_eq_true rfl) ?_
  show Wp l y_Law_clear (0, 0, 447) 447 0 0 0 [(0, .ref Wl0)] [] M L (rf ld) Q
  unfold F_Law_clear at h
  refine g_aload_n (pc1 := 1) d_Law_clear_0 rfl 0 rfl ?_
  refine g_iconst (pc1 := 2) (v := 0) d_Law_clear_1 rfl (by decide) ?_
  refine g_puti (pc1 := 5) d_Law_clear_2 rfl fo_Law_21 (po_5_1 _) (shLw_0 hWl0) (ltLw_0 hWl0) ?_
  refine Wp.lM h (fun M1 h => ?_)
  refine g_return rfl d_Law_clear_5 rfl ?_
  cases h; exact hQ

def F_Law_isTold (Wl0 : Nat) (M : gM) : Option (Int32) :=
  (if (M Wl0 1) ≤ 0 then some 0 else some 1)
set_option maxHeartbeats 4000000 in
set_option maxRecDepth 20000 in
theorem f_Law_isTold {l : Launch} {ld : Nat} {M : gM} {L : gL} {Q : Option Value → gM → gL → gR → Prop} (hld : isLa ld) {Wl0 : Nat} (hWl0 : isLw Wl0) {q : Int32} (h : F_Law_isTold Wl0 M = some q) (hQ : Q (some (.int q)) M L (rf ld)) : Tm l y_Law_isTold (0, 0, 447) 447 [.ref Wl0] M L (rf ld) Q := by
  refine Tm.of (by decide) (Nat.le_of_ble_eq_true rfl) ?_
  show Wp l y_Law_isTold (0, 0, 447) 447 0 0 0 [(0, .ref Wl0)] [] M L (rf ld) Q
  unfold F_Law_isTold at h
  refine g_aload_n (pc1 := 1) d_Law_isTold_0 rfl 0 rfl ?_
  refine g_geti (pc1 := 4) d_Law_isTold_1 rfl ⟨_, fo_Law_21⟩ (shLw_0 hWl0) (ltLw_0 hWl0) ?_
  refine g_if_le (pc1 := 7) (tgt := 11) d_Law_isTold_4 (by decide) rfl (fun c1 => ?_) (fun c1 => ?_)
  · replace h := itp h c1
    refine g_iconst (pc1 := 12) (v := 0) d_Law_isTold_11 rfl (by decide) ?_
    refine g_ireturn (Or.inr ⟨rfl, rfl⟩) d_Law_isTold_12 rfl ?_
    cases h; exact hQ
  · replace h := itn h c1
    refine g_iconst (pc1 := 8) (v := 1) d_Law_isTold_7 rfl (by decide) ?_
    refine g_goto (tgt := 12) d_Law_isTold_8 (by decide) ?_
    refine g_ireturn (Or.inr ⟨rfl, rfl⟩) d_Law_isTold_12 rfl ?_
    cases h; exact hQ

def B_Law_looksAt_2 (Wl0 : Nat) (v1 : Int32) (M : gM) (K2 : Int32 → Option (Int32)) : Int32 → Option (Int32) := fun v2 =>
  (if (M Wl0 1) ≤ v2 then some 0 else (if 400 ≤ v2 then some 0 else (if (v2 : Int32) < 0 ∨ 400 ≤ (v2 : Int32).toNatClampNeg then none else (if (M (Wl0 + 1) (v2 : Int32).toNatClampNeg) = (10000 + v1) then some 1 else nmI (v2 + 1) (fun x5 => K2 x5)))))
def H_Law_looksAt_2 (Wl0 : Nat) (v1 : Int32) (M : gM) : Nat → Int32 → Option (Int32) := lpK (B_Law_looksAt_2 Wl0 v1 M) (fun _ => none)
set_option maxHeartbeats 4000000 in
set_option maxRecDepth 20000 in
theorem h_Law_looksAt_2 {l : Launch} {ld : Nat} {Q : Option Value → gM → gL → gR → Prop} (hld : isLa ld) {Wl0 : Nat} (hWl0 : isLw Wl0) {q : Int32} {M : gM} {L : gL} (hQ : Q (some (.int q)) M L (rf ld))  {v1 : Int32}  : ∀ (f : Nat) (v2 : Int32), H_Law_looksAt_2 Wl0 v1 M f v2 = some q → Wp l y_Law_looksAt (0, 0, 447) 447 0 0 2 [(0, .ref Wl0), (1, .int v1), (2, .int v2)] [] M L (rf ld) Q := by
  intro f
  induction f with
  | zero => intro v2 h; cases h
  | succ f hK2 =>
    intro v2 h
    replace h : B_Law_looksAt_2 Wl0 v1 M (H_Law_looksAt_2 Wl0 v1 M f) v2 = some q := h
    unfold B_Law_looksAt_2 at h
    refine g_iload_n (pc1 := 3) d_Law_looksAt_2 rfl 2 rfl ?_
    refine g_aload_n (pc1 := 4) d_Law_looksAt_3 rfl 0 rfl ?_
    refine g_geti (pc1 := 7) d_Law_looksAt_4 rfl ⟨_, fo_Law_21⟩ (shLw_0 hWl0) (ltLw_0 hWl0) ?_
    refine g_icmp_ge (pc1 := 10) (tgt := 41) d_Law_looksAt_7 (by decide) rfl (fun c1 => ?_) (fun c1 => ?_)
    · replace h := itp h c1
      refine g_iconst (pc1 := 42) (v := 0) d_Law_looksAt_41 rfl (by decide) ?_
      refine g_ireturn (Or.inr ⟨rfl, rfl⟩) d_Law_looksAt_42 rfl ?_
      cases h; exact hQ
    · replace h := itn h c1
      refine g_iload_n (pc1 := 11) d_Law_looksAt_10 rfl 2 rfl ?_
      refine g_aload_n (pc1 := 12) d_Law_looksAt_11 rfl 0 rfl ?_
      refine g_getr (pc1 := 15) d_Law_looksAt_12 rfl ⟨_, fo_Law_11⟩ (shLw_0 hWl0) (ltLw_0 hWl0) (rfLw_0 ld hWl0) ?_
      refine g_alen (pc1 := 16) (v := 400) d_Law_looksAt_15 rfl (shLw_1 hWl0) (by decide) (by decide) (ltLw_1 hWl0) (by decide) ?_
      refine g_icmp_ge (pc1 := 19) (tgt := 41) d_Law_looksAt_16 (by decide) rfl (fun c2 => ?_) (fun c2 => ?_)
      · replace h := itp h c2
        refine g_iconst (pc1 := 42) (v := 0) d_Law_looksAt_41 rfl (by decide) ?_
        refine g_ireturn (Or.inr ⟨rfl, rfl⟩) d_Law_looksAt_42 rfl ?_
        cases h; exact hQ
      · replace h := itn h c2
        refine g_aload_n (pc1 := 20) d_Law_looksAt_19 rfl 0 rfl ?_
        refine g_getr (pc1 := 23) d_Law_looksAt_20 rfl ⟨_, fo_Law_11⟩ (shLw_0 hWl0) (ltLw_0 hWl0) (rfLw_0 ld hWl0) ?_
        refine g_iload_n (pc1 := 24) d_Law_looksAt_23 rfl 2 rfl ?_
        obtain ⟨g3, h⟩ := gdn h
        refine g_iald (pc1 := 25) d_Law_looksAt_24 rfl (shLw_1 hWl0) (ltLw_1 hWl0) g3 ?_
        refine g_sipush (pc1 := 28) (v := 10000) d_Law_looksAt_25 rfl (by decide) ?_
        refine g_iload_n (pc1 := 29) d_Law_looksAt_28 rfl 1 rfl ?_
        refine g_iadd (pc1 := 30) d_Law_looksAt_29 rfl ?_
        refine g_icmp_ne (pc1 := 33) (tgt := 35) d_Law_looksAt_30 (by decide) rfl (fun c4 => ?_) (fun c4 => ?_)
        · replace h := itn h c4
          obtain ⟨x5, ex5, h⟩ := ltI h
          refine g_iinc (pc1 := 38) (v := x5) (lv' := [(0, .ref Wl0), (1, .int v1), (2, .int x5)]) d_Law_looksAt_35 rfl 2 rfl (by rw [ex5]; rfl) (by decide) [1, 2, 0] rfl ?_
          refine g_goto (tgt := 2) d_Law_looksAt_38 (by decide) ?_
          exact hK2 x5 h
        · replace h := itp h c4
          refine g_iconst (pc1 := 34) (v := 1) d_Law_looksAt_33 rfl (by decide) ?_
          refine g_ireturn (Or.inr ⟨rfl, rfl⟩) d_Law_looksAt_34 rfl ?_
          cases h; exact hQ
def F_Law_looksAt (Wl0 : Nat) (p1 : Int32) (M : gM) : Option (Int32) :=
  H_Law_looksAt_2 Wl0 p1 M FU 0
set_option maxHeartbeats 4000000 in
set_option maxRecDepth 20000 in
theorem f_Law_looksAt {l : Launch} {ld : Nat} {M : gM} {L : gL} {Q : Option Value → gM → gL → gR → Prop} (hld : isLa ld) {Wl0 : Nat} {p1 : Int32} (hWl0 : isLw Wl0) {q : Int32} (h : F_Law_looksAt Wl0 p1 M = some q) (hQ : Q (some (.int q)) M L (rf ld)) : Tm l y_Law_looksAt (0, 0, 447) 447 [.ref Wl0, .int p1] M L (rf ld) Q := by
  refine Tm.of (by decide) (Nat.le_of_ble_eq_true rfl) ?_
  show Wp l y_Law_looksAt (0, 0, 447) 447 0 0 0 [(0, .ref Wl0), (1, .int p1)] [] M L (rf ld) Q
  unfold F_Law_looksAt at h
  refine g_iconst (pc1 := 1) (v := 0) d_Law_looksAt_0 rfl (by decide) ?_
  refine g_istore_n (pc1 := 2) (lv' := [(0, .ref Wl0), (1, .int p1), (2, .int 0)]) d_Law_looksAt_1 rfl rfl (by decide) [1, 2, 0] rfl ?_
  exact h_Law_looksAt_2 hld hWl0 hQ  _ 0 h

def F_Law_reckon (p1 : Int32) (p2 : Int32) (p3 : Int32) : Option (Int32) :=
  (if p1 = 42 then some (p2 * p3) else (if p1 = 43 then some (p2 + p3) else (if p1 = 44 then (if p3 = 0 then some 0 else (if p3 = 0 then none else some (p2 / p3))) else (if p1 = 45 then some (p2 - p3) else (if p3 = 0 then some 0 else (if p3 = 0 then none else some (p2 / p3)))))))
set_option maxHeartbeats 4000000 in
set_option maxRecDepth 20000 in
theorem f_Law_reckon {l : Launch} {ld : Nat} {M : gM} {L : gL} {Q : Option Value → gM → gL → gR → Prop} (hld : isLa ld) {p1 : Int32} {p2 : Int32} {p3 : Int32}  {q : Int32} (h : F_Law_reckon p1 p2 p3 = some q) (hQ : Q (some (.int q)) M L (rf ld)) : Tm l y_Law_reckon (0, 0, 447) 447 [.int p1, .int p2, .int p3] M L (rf ld) Q := by
  refine Tm.of (by decide) (Nat.le_of_ble_eq_true rfl) ?_
  show Wp l y_Law_reckon (0, 0, 447) 447 0 0 0 [(0, .int p1), (1, .int p2), (2, .int p3)] [] M L (rf ld) Q
  unfold F_Law_reckon at h
  refine g_iload_n (pc1 := 1) d_Law_reckon_0 rfl 0 rfl ?_
  by_cases c1 : p1 = 42
  · replace h := itp h c1
    refine g_tabK (tgt := 40) (off := 39) d_Law_reckon_1 c1 (by decide) (by decide) (by decide) (by decide) ?_
    refine g_iload_n (pc1 := 41) d_Law_reckon_40 rfl 1 rfl ?_
    refine g_iload_n (pc1 := 42) d_Law_reckon_41 rfl 2 rfl ?_
    refine g_imul (pc1 := 43) d_Law_reckon_42 rfl ?_
    refine g_ireturn (Or.inl rfl) d_Law_reckon_43 rfl ?_
    cases h; exact hQ
  replace h := itn h c1
  by_cases c2 : p1 = 43
  · replace h := itp h c2
    refine g_tabK (tgt := 32) (off := 31) d_Law_reckon_1 c2 (by decide) (by decide) (by decide) (by decide) ?_
    refine g_iload_n (pc1 := 33) d_Law_reckon_32 rfl 1 rfl ?_
    refine g_iload_n (pc1 := 34) d_Law_reckon_33 rfl 2 rfl ?_
    refine g_iadd (pc1 := 35) d_Law_reckon_34 rfl ?_
    refine g_ireturn (Or.inl rfl) d_Law_reckon_35 rfl ?_
    cases h; exact hQ
  replace h := itn h c2
  by_cases c3 : p1 = 44
  · replace h := itp h c3
    refine g_tabK (tgt := 44) (off := 43) d_Law_reckon_1 c3 (by decide) (by decide) (by decide) (by decide) ?_
    refine g_iload_n (pc1 := 45) d_Law_reckon_44 rfl 2 rfl ?_
    refine g_if_ne (pc1 := 48) (tgt := 52) d_Law_reckon_45 (by decide) rfl (fun c4 => ?_) (fun c4 => ?_)
    · replace h := itn h c4
      refine g_iload_n (pc1 := 53) d_Law_reckon_52 rfl 1 rfl ?_
      refine g_iload_n (pc1 := 54) d_Law_reckon_53 rfl 2 rfl ?_
      obtain ⟨g5, h⟩ := gdn h
      refine g_idiv (pc1 := 55) d_Law_reckon_54 rfl g5 ?_
      refine g_ireturn (Or.inl rfl) d_Law_reckon_55 rfl ?_
      cases h; exact hQ
    · replace h := itp h c4
      refine g_iconst (pc1 := 49) (v := 0) d_Law_reckon_48 rfl (by decide) ?_
      refine g_goto (tgt := 55) d_Law_reckon_49 (by decide) ?_
      refine g_ireturn (Or.inl rfl) d_Law_reckon_55 rfl ?_
      cases h; exact hQ
  replace h := itn h c3
  by_cases c6 : p1 = 45
  · replace h := itp h c6
    refine g_tabK (tgt := 36) (off := 35) d_Law_reckon_1 c6 (by decide) (by decide) (by decide) (by decide) ?_
    refine g_iload_n (pc1 := 37) d_Law_reckon_36 rfl 1 rfl ?_
    refine g_iload_n (pc1 := 38) d_Law_reckon_37 rfl 2 rfl ?_
    refine g_isub (pc1 := 39) d_Law_reckon_38 rfl ?_
    refine g_ireturn (Or.inl rfl) d_Law_reckon_39 rfl ?_
    cases h; exact hQ
  replace h := itn h c6
  refine g_tabOut (tgt := 44) d_Law_reckon_1 (by
    have nc1 := neT (a := 42) c1 (by decide)
    have nc2 := neT (a := 43) c2 (by decide)
    have nc3 := neT (a := 44) c3 (by decide)
    have nc6 := neT (a := 45) c6 (by decide)
    omega) (by decide) ?_
  refine g_iload_n (pc1 := 45) d_Law_reckon_44 rfl 2 rfl ?_
  refine g_if_ne (pc1 := 48) (tgt := 52) d_Law_reckon_45 (by decide) rfl (fun c7 => ?_) (fun c7 => ?_)
  · replace h := itn h c7
    refine g_iload_n (pc1 := 53) d_Law_reckon_52 rfl 1 rfl ?_
    refine g_iload_n (pc1 := 54) d_Law_reckon_53 rfl 2 rfl ?_
    obtain ⟨g8, h⟩ := gdn h
    refine g_idiv (pc1 := 55) d_Law_reckon_54 rfl g8 ?_
    refine g_ireturn (Or.inl rfl) d_Law_reckon_55 rfl ?_
    cases h; exact hQ
  · replace h := itp h c7
    refine g_iconst (pc1 := 49) (v := 0) d_Law_reckon_48 rfl (by decide) ?_
    refine g_goto (tgt := 55) d_Law_reckon_49 (by decide) ?_
    refine g_ireturn (Or.inl rfl) d_Law_reckon_55 rfl ?_
    cases h; exact hQ

def F_MenuSearch_indexOf (p1 : Int32) (p2 : Int32) (p3 : Int32) : Option (Int32) :=
  some ((((p1 * 4) + p2) * 5) + p3)
set_option maxHeartbeats 4000000 in
set_option maxRecDepth 20000 in
theorem f_MenuSearch_indexOf {l : Launch} {ld : Nat} {M : gM} {L : gL} {Q : Option Value → gM → gL → gR → Prop} (hld : isLa ld) {p1 : Int32} {p2 : Int32} {p3 : Int32}  {q : Int32} (h : F_MenuSearch_indexOf p1 p2 p3 = some q) (hQ : Q (some (.int q)) M L (rf ld)) : Tm l y_MenuSearch_indexOf (0, 0, 447) 447 [.int p1, .int p2, .int p3] M L (rf ld) Q := by
  refine Tm.of (by decide) (Nat.le_of_ble_eq_true rfl) ?_
  show Wp l y_MenuSearch_indexOf (0, 0, 447) 447 0 0 0 [(0, .int p1), (1, .int p2), (2, .int p3)] [] M L (rf ld) Q
  unfold F_MenuSearch_indexOf at h
  refine g_iload_n (pc1 := 1) d_MenuSearch_indexOf_0 rfl 0 rfl ?_
  refine g_iconst (pc1 := 2) (v := 4) d_MenuSearch_indexOf_1 rfl (by decide) ?_
  refine g_imul (pc1 := 3) d_MenuSearch_indexOf_2 rfl ?_
  refine g_iload_n (pc1 := 4) d_MenuSearch_indexOf_3 rfl 1 rfl ?_
  refine g_iadd (pc1 := 5) d_MenuSearch_indexOf_4 rfl ?_
  refine g_iconst (pc1 := 6) (v := 5) d_MenuSearch_indexOf_5 rfl (by decide) ?_
  refine g_imul (pc1 := 7) d_MenuSearch_indexOf_6 rfl ?_
  refine g_iload_n (pc1 := 8) d_MenuSearch_indexOf_7 rfl 2 rfl ?_
  refine g_iadd (pc1 := 9) d_MenuSearch_indexOf_8 rfl ?_
  refine g_ireturn (Or.inl rfl) d_MenuSearch_indexOf_9 rfl ?_
  cases h; exact hQ

def F_Past_clear (M : gM) : Option (gM) :=
  nmM (uM M 78 1 0) (fun M1 => nmM (uM M1 78 2 0) (fun M2 => some M2))
set_option maxHeartbeats 4000000 in
set_option maxRecDepth 20000 in
theorem f_Past_clear {l : Launch} {ld : Nat} {M : gM} {L : gL} {Q : Option Value → gM → gL → gR → Prop} (hld : isLa ld)   {q : gM} (h : F_Past_clear M = some q) (hQ : Q none q L (rf ld)) : Tm l y_Past_clear (0, 0, 447) 447 [.ref 78] M L (rf ld) Q := by
  refine Tm.of (by decide) (Nat.le_of_ble_eq_true rfl) ?_
  show Wp l y_Past_clear (0, 0, 447) 447 0 0 0 [(0, .ref 78)] [] M L (rf ld) Q
  unfold F_Past_clear at h
  refine g_aload_n (pc1 := 1) d_Past_clear_0 rfl 0 rfl ?_
  refine g_iconst (pc1 := 2) (v := 0) d_Past_clear_1 rfl (by decide) ?_
  refine g_puti (pc1 := 5) d_Past_clear_2 rfl fo_Past_18 (po_7_1 _) sh_78 (by decide) ?_
  refine Wp.lM h (fun M1 h => ?_)
  refine g_aload_n (pc1 := 6) d_Past_clear_5 rfl 0 rfl ?_
  refine g_iconst (pc1 := 7) (v := 0) d_Past_clear_6 rfl (by decide) ?_
  refine g_puti (pc1 := 10) d_Past_clear_7 rfl fo_Past_22 (po_7_2 _) sh_78 (by decide) ?_
  refine Wp.lM h (fun M2 h => ?_)
  refine g_return rfl d_Past_clear_10 rfl ?_
  cases h; exact hQ

def B_Reader_indexOf_2 (v1 : Int64) (M : gM) (L : gL) (K2 : Int32 → Option (Int32)) : Int32 → Option (Int32) := fun v3 =>
  (if (M 3 8) ≤ v3 then some (-1) else (if 21 ≤ v3 then some (-1) else (if (v3 : Int32) < 0 ∨ 21 ≤ (v3 : Int32).toNatClampNeg then none else (if (lg_cmp (L 9 (v3 : Int32).toNatClampNeg) v1) = 0 then some v3 else nmI (v3 + 1) (fun x5 => K2 x5)))))
def H_Reader_indexOf_2 (v1 : Int64) (M : gM) (L : gL) : Nat → Int32 → Option (Int32) := lpK (B_Reader_indexOf_2 v1 M L) (fun _ => none)
set_option maxHeartbeats 4000000 in
set_option maxRecDepth 20000 in
theorem h_Reader_indexOf_2 {l : Launch} {ld : Nat} {Q : Option Value → gM → gL → gR → Prop} (hld : isLa ld)   {q : Int32} {M : gM} {L : gL} (hQ : Q (some (.int q)) M L (rf ld))  {v1 : Int64}  : ∀ (f : Nat) (v3 : Int32), H_Reader_indexOf_2 v1 M L f v3 = some q → Wp l y_Reader_indexOf (0, 0, 447) 447 0 0 2 [(0, .ref 3), (1, .long v1), (3, .int v3)] [] M L (rf ld) Q := by
  intro f
  induction f with
  | zero => intro v3 h; cases h
  | succ f hK2 =>
    intro v3 h
    replace h : B_Reader_indexOf_2 v1 M L (H_Reader_indexOf_2 v1 M L f) v3 = some q := h
    unfold B_Reader_indexOf_2 at h
    refine g_iload_n (pc1 := 3) d_Reader_indexOf_2 rfl 2 rfl ?_
    refine g_aload_n (pc1 := 4) d_Reader_indexOf_3 rfl 0 rfl ?_
    refine g_geti (pc1 := 7) d_Reader_indexOf_4 rfl ⟨_, fo_Reader_48⟩ sh_3 (by decide) ?_
    refine g_icmp_ge (pc1 := 10) (tgt := 38) d_Reader_indexOf_7 (by decide) rfl (fun c1 => ?_) (fun c1 => ?_)
    · replace h := itp h c1
      refine g_iconst (pc1 := 39) (v := (-1)) d_Reader_indexOf_38 rfl (by decide) ?_
      refine g_ireturn (Or.inl rfl) d_Reader_indexOf_39 rfl ?_
      cases h; exact hQ
    · replace h := itn h c1
      refine g_iload_n (pc1 := 11) d_Reader_indexOf_10 rfl 2 rfl ?_
      refine g_aload_n (pc1 := 12) d_Reader_indexOf_11 rfl 0 rfl ?_
      refine g_getr (pc1 := 15) d_Reader_indexOf_12 rfl ⟨_, fo_Reader_18⟩ sh_3 (by decide) (rf_3_6 ld) ?_
      refine g_alen (pc1 := 16) (v := 21) d_Reader_indexOf_15 rfl sh_9 (by decide) (by decide) (by decide) (by decide) ?_
      refine g_icmp_ge (pc1 := 19) (tgt := 38) d_Reader_indexOf_16 (by decide) rfl (fun c2 => ?_) (fun c2 => ?_)
      · replace h := itp h c2
        refine g_iconst (pc1 := 39) (v := (-1)) d_Reader_indexOf_38 rfl (by decide) ?_
        refine g_ireturn (Or.inl rfl) d_Reader_indexOf_39 rfl ?_
        cases h; exact hQ
      · replace h := itn h c2
        refine g_aload_n (pc1 := 20) d_Reader_indexOf_19 rfl 0 rfl ?_
        refine g_getr (pc1 := 23) d_Reader_indexOf_20 rfl ⟨_, fo_Reader_18⟩ sh_3 (by decide) (rf_3_6 ld) ?_
        refine g_iload_n (pc1 := 24) d_Reader_indexOf_23 rfl 2 rfl ?_
        obtain ⟨g3, h⟩ := gdn h
        refine g_lald (pc1 := 25) d_Reader_indexOf_24 rfl sh_9 (by decide) g3 ?_
        refine g_lload_n (pc1 := 26) d_Reader_indexOf_25 rfl 1 rfl ?_
        refine g_lcmp (pc1 := 27) d_Reader_indexOf_26 rfl ?_
        refine g_if_ne (pc1 := 30) (tgt := 32) d_Reader_indexOf_27 (by decide) rfl (fun c4 => ?_) (fun c4 => ?_)
        · replace h := itn h c4
          obtain ⟨x5, ex5, h⟩ := ltI h
          refine g_iinc (pc1 := 35) (v := x5) (lv' := [(0, .ref 3), (1, .long v1), (3, .int x5)]) d_Reader_indexOf_32 rfl 2 rfl (by rw [ex5]; rfl) (by decide) [1, 2, 0] rfl ?_
          refine g_goto (tgt := 2) d_Reader_indexOf_35 (by decide) ?_
          exact hK2 x5 h
        · replace h := itp h c4
          refine g_iload_n (pc1 := 31) d_Reader_indexOf_30 rfl 2 rfl ?_
          refine g_ireturn (Or.inl rfl) d_Reader_indexOf_31 rfl ?_
          cases h; exact hQ
def F_Reader_indexOf (p1 : Int64) (M : gM) (L : gL) : Option (Int32) :=
  H_Reader_indexOf_2 p1 M L FU 0
set_option maxHeartbeats 4000000 in
set_option maxRecDepth 20000 in
theorem f_Reader_indexOf {l : Launch} {ld : Nat} {M : gM} {L : gL} {Q : Option Value → gM → gL → gR → Prop} (hld : isLa ld) {p1 : Int64}  {q : Int32} (h : F_Reader_indexOf p1 M L = some q) (hQ : Q (some (.int q)) M L (rf ld)) : Tm l y_Reader_indexOf (0, 0, 447) 447 [.ref 3, .long p1] M L (rf ld) Q := by
  refine Tm.of (by decide) (Nat.le_of_ble_eq_true rfl) ?_
  show Wp l y_Reader_indexOf (0, 0, 447) 447 0 0 0 [(0, .ref 3), (1, .long p1)] [] M L (rf ld) Q
  unfold F_Reader_indexOf at h
  refine g_iconst (pc1 := 1) (v := 0) d_Reader_indexOf_0 rfl (by decide) ?_
  refine g_istore_n (pc1 := 2) (lv' := [(0, .ref 3), (1, .long p1), (3, .int 0)]) d_Reader_indexOf_1 rfl rfl (by decide) [1, 2, 0] rfl ?_
  exact h_Reader_indexOf_2 hld  hQ  _ 0 h

def J_Reader_rank_26  : Option (Int32) :=
  some 1
set_option maxHeartbeats 4000000 in
set_option maxRecDepth 20000 in
theorem j_Reader_rank_26 {l : Launch} {ld : Nat} {Q : Option Value → gM → gL → gR → Prop} (hld : isLa ld)   {q : Int32} {M : gM} {L : gL} (hQ : Q (some (.int q)) M L (rf ld))    (h : J_Reader_rank_26 = some q) : Wp l y_Reader_rank (0, 0, 447) 447 0 0 26 [] [] M L (rf ld) Q := by
  unfold J_Reader_rank_26 at h
  refine g_iconst (pc1 := 27) (v := 1) d_Reader_rank_26 rfl (by decide) ?_
  refine g_goto (tgt := 31) d_Reader_rank_27 (by decide) ?_
  refine g_ireturn (Or.inl rfl) d_Reader_rank_31 rfl ?_
  cases h; exact hQ
def F_Reader_rank (p1 : Int32) : Option (Int32) :=
  (if p1 = 42 then some 2 else (if p1 = 47 then some 2 else (if p1 = 43 then J_Reader_rank_26 else (if p1 = 45 then J_Reader_rank_26 else some 0))))
set_option maxHeartbeats 4000000 in
set_option maxRecDepth 20000 in
theorem f_Reader_rank {l : Launch} {ld : Nat} {M : gM} {L : gL} {Q : Option Value → gM → gL → gR → Prop} (hld : isLa ld) {p1 : Int32}  {q : Int32} (h : F_Reader_rank p1 = some q) (hQ : Q (some (.int q)) M L (rf ld)) : Tm l y_Reader_rank (0, 0, 447) 447 [.int p1] M L (rf ld) Q := by
  refine Tm.of (by decide) (Nat.le_of_ble_eq_true rfl) ?_
  show Wp l y_Reader_rank (0, 0, 447) 447 0 0 0 [(0, .int p1)] [] M L (rf ld) Q
  unfold F_Reader_rank at h
  refine g_iload_n (pc1 := 1) d_Reader_rank_0 rfl 0 rfl ?_
  refine g_bipush (pc1 := 3) (v := 42) d_Reader_rank_1 rfl (by decide) ?_
  refine g_icmp_eq (pc1 := 6) (tgt := 12) d_Reader_rank_3 (by decide) rfl (fun c1 => ?_) (fun c1 => ?_)
  · replace h := itp h c1
    refine g_iconst (pc1 := 13) (v := 2) d_Reader_rank_12 rfl (by decide) ?_
    refine g_ireturn (Or.inl rfl) d_Reader_rank_13 rfl ?_
    cases h; exact hQ
  · replace h := itn h c1
    refine g_iload_n (pc1 := 7) d_Reader_rank_6 rfl 0 rfl ?_
    refine g_bipush (pc1 := 9) (v := 47) d_Reader_rank_7 rfl (by decide) ?_
    refine g_icmp_ne (pc1 := 12) (tgt := 14) d_Reader_rank_9 (by decide) rfl (fun c2 => ?_) (fun c2 => ?_)
    · replace h := itn h c2
      refine g_iload_n (pc1 := 15) d_Reader_rank_14 rfl 0 rfl ?_
      refine g_bipush (pc1 := 17) (v := 43) d_Reader_rank_15 rfl (by decide) ?_
      refine g_icmp_eq (pc1 := 20) (tgt := 26) d_Reader_rank_17 (by decide) rfl (fun c3 => ?_) (fun c3 => ?_)
      · replace h := itp h c3
        refine Wp.loc (lv' := []) [] rfl ?_
        exact j_Reader_rank_26 hld  hQ  h
      · replace h := itn h c3
        refine g_iload_n (pc1 := 21) d_Reader_rank_20 rfl 0 rfl ?_
        refine g_bipush (pc1 := 23) (v := 45) d_Reader_rank_21 rfl (by decide) ?_
        refine g_icmp_ne (pc1 := 26) (tgt := 30) d_Reader_rank_23 (by decide) rfl (fun c4 => ?_) (fun c4 => ?_)
        · replace h := itn h c4
          refine g_iconst (pc1 := 31) (v := 0) d_Reader_rank_30 rfl (by decide) ?_
          refine g_ireturn (Or.inl rfl) d_Reader_rank_31 rfl ?_
          cases h; exact hQ
        · replace h := itp h c4
          refine Wp.loc (lv' := []) [] rfl ?_
          exact j_Reader_rank_26 hld  hQ  h
    · replace h := itp h c2
      refine g_iconst (pc1 := 13) (v := 2) d_Reader_rank_12 rfl (by decide) ?_
      refine g_ireturn (Or.inl rfl) d_Reader_rank_13 rfl ?_
      cases h; exact hQ

def F_Reader_stop (p1 : Int32) (M : gM) : Option (gM) :=
  (if (M 3 2) = 0 then nmM (uM M 3 2 p1) (fun M2 => nmM (uM M2 3 3 (M2 3 1)) (fun M3 => some M3)) else some M)
set_option maxHeartbeats 4000000 in
set_option maxRecDepth 20000 in
theorem f_Reader_stop {l : Launch} {ld : Nat} {M : gM} {L : gL} {Q : Option Value → gM → gL → gR → Prop} (hld : isLa ld) {p1 : Int32}  {q : gM} (h : F_Reader_stop p1 M = some q) (hQ : Q none q L (rf ld)) : Tm l y_Reader_stop (0, 0, 447) 447 [.ref 3, .int p1] M L (rf ld) Q := by
  refine Tm.of (by decide) (Nat.le_of_ble_eq_true rfl) ?_
  show Wp l y_Reader_stop (0, 0, 447) 447 0 0 0 [(0, .ref 3), (1, .int p1)] [] M L (rf ld) Q
  unfold F_Reader_stop at h
  refine g_aload_n (pc1 := 1) d_Reader_stop_0 rfl 0 rfl ?_
  refine g_geti (pc1 := 4) d_Reader_stop_1 rfl ⟨_, fo_Reader_42⟩ sh_3 (by decide) ?_
  refine g_if_ne (pc1 := 7) (tgt := 20) d_Reader_stop_4 (by decide) rfl (fun c1 => ?_) (fun c1 => ?_)
  · replace h := itn h c1
    refine g_return rfl d_Reader_stop_20 rfl ?_
    cases h; exact hQ
  · replace h := itp h c1
    refine g_aload_n (pc1 := 8) d_Reader_stop_7 rfl 0 rfl ?_
    refine g_iload_n (pc1 := 9) d_Reader_stop_8 rfl 1 rfl ?_
    refine g_puti (pc1 := 12) d_Reader_stop_9 rfl fo_Reader_42 (po_2_2 _) sh_3 (by decide) ?_
    refine Wp.lM h (fun M2 h => ?_)
    refine g_aload_n (pc1 := 13) d_Reader_stop_12 rfl 0 rfl ?_
    refine g_aload_n (pc1 := 14) d_Reader_stop_13 rfl 0 rfl ?_
    refine g_geti (pc1 := 17) d_Reader_stop_14 rfl ⟨_, fo_Reader_38⟩ sh_3 (by decide) ?_
    refine g_puti (pc1 := 20) d_Reader_stop_17 rfl fo_Reader_102 (po_2_3 _) sh_3 (by decide) ?_
    refine Wp.lM h (fun M3 h => ?_)
    refine g_return rfl d_Reader_stop_20 rfl ?_
    cases h; exact hQ

def F_Reader_stopLate (p1 : Int32) (M : gM) : Option (gM) :=
  (if (M 3 4) = 0 then nmM (uM M 3 4 p1) (fun M2 => nmM (uM M2 3 5 (M2 3 1)) (fun M3 => some M3)) else some M)
set_option maxHeartbeats 4000000 in
set_option maxRecDepth 20000 in
theorem f_Reader_stopLate {l : Launch} {ld : Nat} {M : gM} {L : gL} {Q : Option Value → gM → gL → gR → Prop} (hld : isLa ld) {p1 : Int32}  {q : gM} (h : F_Reader_stopLate p1 M = some q) (hQ : Q none q L (rf ld)) : Tm l y_Reader_stopLate (0, 0, 447) 447 [.ref 3, .int p1] M L (rf ld) Q := by
  refine Tm.of (by decide) (Nat.le_of_ble_eq_true rfl) ?_
  show Wp l y_Reader_stopLate (0, 0, 447) 447 0 0 0 [(0, .ref 3), (1, .int p1)] [] M L (rf ld) Q
  unfold F_Reader_stopLate at h
  refine g_aload_n (pc1 := 1) d_Reader_stopLate_0 rfl 0 rfl ?_
  refine g_geti (pc1 := 4) d_Reader_stopLate_1 rfl ⟨_, fo_Reader_45⟩ sh_3 (by decide) ?_
  refine g_if_ne (pc1 := 7) (tgt := 20) d_Reader_stopLate_4 (by decide) rfl (fun c1 => ?_) (fun c1 => ?_)
  · replace h := itn h c1
    refine g_return rfl d_Reader_stopLate_20 rfl ?_
    cases h; exact hQ
  · replace h := itp h c1
    refine g_aload_n (pc1 := 8) d_Reader_stopLate_7 rfl 0 rfl ?_
    refine g_iload_n (pc1 := 9) d_Reader_stopLate_8 rfl 1 rfl ?_
    refine g_puti (pc1 := 12) d_Reader_stopLate_9 rfl fo_Reader_45 (po_2_4 _) sh_3 (by decide) ?_
    refine Wp.lM h (fun M2 h => ?_)
    refine g_aload_n (pc1 := 13) d_Reader_stopLate_12 rfl 0 rfl ?_
    refine g_aload_n (pc1 := 14) d_Reader_stopLate_13 rfl 0 rfl ?_
    refine g_geti (pc1 := 17) d_Reader_stopLate_14 rfl ⟨_, fo_Reader_38⟩ sh_3 (by decide) ?_
    refine g_puti (pc1 := 20) d_Reader_stopLate_17 rfl fo_Reader_99 (po_2_5 _) sh_3 (by decide) ?_
    refine Wp.lM h (fun M3 h => ?_)
    refine g_return rfl d_Reader_stopLate_20 rfl ?_
    cases h; exact hQ

def F_Slots_clear (M : gM) : Option (gM) :=
  nmM (uM M 360 1 0) (fun M1 => some M1)
set_option maxHeartbeats 4000000 in
set_option maxRecDepth 20000 in
theorem f_Slots_clear {l : Launch} {ld : Nat} {M : gM} {L : gL} {Q : Option Value → gM → gL → gR → Prop} (hld : isLa ld)   {q : gM} (h : F_Slots_clear M = some q) (hQ : Q none q L (rf ld)) : Tm l y_Slots_clear (0, 0, 447) 447 [.ref 360] M L (rf ld) Q := by
  refine Tm.of (by decide) (Nat.le_of_ble_eq_true rfl) ?_
  show Wp l y_Slots_clear (0, 0, 447) 447 0 0 0 [(0, .ref 360)] [] M L (rf ld) Q
  unfold F_Slots_clear at h
  refine g_aload_n (pc1 := 1) d_Slots_clear_0 rfl 0 rfl ?_
  refine g_iconst (pc1 := 2) (v := 0) d_Slots_clear_1 rfl (by decide) ?_
  refine g_puti (pc1 := 5) d_Slots_clear_2 rfl fo_Slots_18 (po_8_1 _) sh_360 (by decide) ?_
  refine Wp.lM h (fun M1 h => ?_)
  refine g_return rfl d_Slots_clear_5 rfl ?_
  cases h; exact hQ

def F_Tape_byteAt (p1 : Int32) (M : gM) : Option (Int32) :=
  (if p1 < 0 then some (-1) else (if (M 1 1) ≤ p1 then some (-1) else (if 2000 ≤ p1 then some (-1) else (if (p1 : Int32) < 0 ∨ 2000 ≤ (p1 : Int32).toNatClampNeg then none else some (M 2 (p1 : Int32).toNatClampNeg)))))
set_option maxHeartbeats 4000000 in
set_option maxRecDepth 20000 in
theorem f_Tape_byteAt {l : Launch} {ld : Nat} {M : gM} {L : gL} {Q : Option Value → gM → gL → gR → Prop} (hld : isLa ld) {p1 : Int32}  {q : Int32} (h : F_Tape_byteAt p1 M = some q) (hQ : Q (some (.int q)) M L (rf ld)) : Tm l y_Tape_byteAt (0, 0, 447) 447 [.ref 1, .int p1] M L (rf ld) Q := by
  refine Tm.of (by decide) (Nat.le_of_ble_eq_true rfl) ?_
  show Wp l y_Tape_byteAt (0, 0, 447) 447 0 0 0 [(0, .ref 1), (1, .int p1)] [] M L (rf ld) Q
  unfold F_Tape_byteAt at h
  refine g_iload_n (pc1 := 1) d_Tape_byteAt_0 rfl 1 rfl ?_
  refine g_if_lt (pc1 := 4) (tgt := 30) d_Tape_byteAt_1 (by decide) rfl (fun c1 => ?_) (fun c1 => ?_)
  · replace h := itp h c1
    refine g_iconst (pc1 := 31) (v := (-1)) d_Tape_byteAt_30 rfl (by decide) ?_
    refine g_ireturn (Or.inl rfl) d_Tape_byteAt_31 rfl ?_
    cases h; exact hQ
  · replace h := itn h c1
    refine g_iload_n (pc1 := 5) d_Tape_byteAt_4 rfl 1 rfl ?_
    refine g_aload_n (pc1 := 6) d_Tape_byteAt_5 rfl 0 rfl ?_
    refine g_geti (pc1 := 9) d_Tape_byteAt_6 rfl ⟨_, fo_Tape_15⟩ sh_1 (by decide) ?_
    refine g_icmp_ge (pc1 := 12) (tgt := 30) d_Tape_byteAt_9 (by decide) rfl (fun c2 => ?_) (fun c2 => ?_)
    · replace h := itp h c2
      refine g_iconst (pc1 := 31) (v := (-1)) d_Tape_byteAt_30 rfl (by decide) ?_
      refine g_ireturn (Or.inl rfl) d_Tape_byteAt_31 rfl ?_
      cases h; exact hQ
    · replace h := itn h c2
      refine g_iload_n (pc1 := 13) d_Tape_byteAt_12 rfl 1 rfl ?_
      refine g_aload_n (pc1 := 14) d_Tape_byteAt_13 rfl 0 rfl ?_
      refine g_getr (pc1 := 17) d_Tape_byteAt_14 rfl ⟨_, fo_Tape_9⟩ sh_1 (by decide) (rf_1_0 ld) ?_
      refine g_alen (pc1 := 18) (v := 2000) d_Tape_byteAt_17 rfl sh_2 (by decide) (by decide) (by decide) (by decide) ?_
      refine g_icmp_ge (pc1 := 21) (tgt := 30) d_Tape_byteAt_18 (by decide) rfl (fun c3 => ?_) (fun c3 => ?_)
      · replace h := itp h c3
        refine g_iconst (pc1 := 31) (v := (-1)) d_Tape_byteAt_30 rfl (by decide) ?_
        refine g_ireturn (Or.inl rfl) d_Tape_byteAt_31 rfl ?_
        cases h; exact hQ
      · replace h := itn h c3
        refine g_aload_n (pc1 := 22) d_Tape_byteAt_21 rfl 0 rfl ?_
        refine g_getr (pc1 := 25) d_Tape_byteAt_22 rfl ⟨_, fo_Tape_9⟩ sh_1 (by decide) (rf_1_0 ld) ?_
        refine g_iload_n (pc1 := 26) d_Tape_byteAt_25 rfl 1 rfl ?_
        obtain ⟨g4, h⟩ := gdn h
        refine g_iald (pc1 := 27) d_Tape_byteAt_26 rfl sh_2 (by decide) g4 ?_
        refine g_goto (tgt := 31) d_Tape_byteAt_27 (by decide) ?_
        refine g_ireturn (Or.inl rfl) d_Tape_byteAt_31 rfl ?_
        cases h; exact hQ

def J_Tokens_isBlank_24  : Option (Int32) :=
  some 1
set_option maxHeartbeats 4000000 in
set_option maxRecDepth 20000 in
theorem j_Tokens_isBlank_24 {l : Launch} {ld : Nat} {Q : Option Value → gM → gL → gR → Prop} (hld : isLa ld)   {q : Int32} {M : gM} {L : gL} (hQ : Q (some (.int q)) M L (rf ld))    (h : J_Tokens_isBlank_24 = some q) : Wp l y_Tokens_isBlank (0, 0, 447) 447 0 0 24 [] [] M L (rf ld) Q := by
  unfold J_Tokens_isBlank_24 at h
  refine g_iconst (pc1 := 25) (v := 1) d_Tokens_isBlank_24 rfl (by decide) ?_
  refine g_goto (tgt := 29) d_Tokens_isBlank_25 (by decide) ?_
  refine g_ireturn (Or.inr ⟨rfl, rfl⟩) d_Tokens_isBlank_29 rfl ?_
  cases h; exact hQ
def F_Tokens_isBlank (p1 : Int32) : Option (Int32) :=
  (if p1 = 9 then J_Tokens_isBlank_24 else (if p1 = 10 then J_Tokens_isBlank_24 else (if p1 = 13 then J_Tokens_isBlank_24 else (if p1 = 32 then J_Tokens_isBlank_24 else some 0))))
set_option maxHeartbeats 4000000 in
set_option maxRecDepth 20000 in
theorem f_Tokens_isBlank {l : Launch} {ld : Nat} {M : gM} {L : gL} {Q : Option Value → gM → gL → gR → Prop} (hld : isLa ld) {p1 : Int32}  {q : Int32} (h : F_Tokens_isBlank p1 = some q) (hQ : Q (some (.int q)) M L (rf ld)) : Tm l y_Tokens_isBlank (0, 0, 447) 447 [.int p1] M L (rf ld) Q := by
  refine Tm.of (by decide) (Nat.le_of_ble_eq_true rfl) ?_
  show Wp l y_Tokens_isBlank (0, 0, 447) 447 0 0 0 [(0, .int p1)] [] M L (rf ld) Q
  unfold F_Tokens_isBlank at h
  refine g_iload_n (pc1 := 1) d_Tokens_isBlank_0 rfl 0 rfl ?_
  refine g_bipush (pc1 := 3) (v := 9) d_Tokens_isBlank_1 rfl (by decide) ?_
  refine g_icmp_eq (pc1 := 6) (tgt := 24) d_Tokens_isBlank_3 (by decide) rfl (fun c1 => ?_) (fun c1 => ?_)
  · replace h := itp h c1
    refine Wp.loc (lv' := []) [] rfl ?_
    exact j_Tokens_isBlank_24 hld  hQ  h
  · replace h := itn h c1
    refine g_iload_n (pc1 := 7) d_Tokens_isBlank_6 rfl 0 rfl ?_
    refine g_bipush (pc1 := 9) (v := 10) d_Tokens_isBlank_7 rfl (by decide) ?_
    refine g_icmp_eq (pc1 := 12) (tgt := 24) d_Tokens_isBlank_9 (by decide) rfl (fun c2 => ?_) (fun c2 => ?_)
    · replace h := itp h c2
      refine Wp.loc (lv' := []) [] rfl ?_
      exact j_Tokens_isBlank_24 hld  hQ  h
    · replace h := itn h c2
      refine g_iload_n (pc1 := 13) d_Tokens_isBlank_12 rfl 0 rfl ?_
      refine g_bipush (pc1 := 15) (v := 13) d_Tokens_isBlank_13 rfl (by decide) ?_
      refine g_icmp_eq (pc1 := 18) (tgt := 24) d_Tokens_isBlank_15 (by decide) rfl (fun c3 => ?_) (fun c3 => ?_)
      · replace h := itp h c3
        refine Wp.loc (lv' := []) [] rfl ?_
        exact j_Tokens_isBlank_24 hld  hQ  h
      · replace h := itn h c3
        refine g_iload_n (pc1 := 19) d_Tokens_isBlank_18 rfl 0 rfl ?_
        refine g_bipush (pc1 := 21) (v := 32) d_Tokens_isBlank_19 rfl (by decide) ?_
        refine g_icmp_ne (pc1 := 24) (tgt := 28) d_Tokens_isBlank_21 (by decide) rfl (fun c4 => ?_) (fun c4 => ?_)
        · replace h := itn h c4
          refine g_iconst (pc1 := 29) (v := 0) d_Tokens_isBlank_28 rfl (by decide) ?_
          refine g_ireturn (Or.inr ⟨rfl, rfl⟩) d_Tokens_isBlank_29 rfl ?_
          cases h; exact hQ
        · replace h := itp h c4
          refine Wp.loc (lv' := []) [] rfl ?_
          exact j_Tokens_isBlank_24 hld  hQ  h

def J_Tokens_isSign_54  : Option (Int32) :=
  some 1
set_option maxHeartbeats 4000000 in
set_option maxRecDepth 20000 in
theorem j_Tokens_isSign_54 {l : Launch} {ld : Nat} {Q : Option Value → gM → gL → gR → Prop} (hld : isLa ld)   {q : Int32} {M : gM} {L : gL} (hQ : Q (some (.int q)) M L (rf ld))    (h : J_Tokens_isSign_54 = some q) : Wp l y_Tokens_isSign (0, 0, 447) 447 0 0 54 [] [] M L (rf ld) Q := by
  unfold J_Tokens_isSign_54 at h
  refine g_iconst (pc1 := 55) (v := 1) d_Tokens_isSign_54 rfl (by decide) ?_
  refine g_goto (tgt := 59) d_Tokens_isSign_55 (by decide) ?_
  refine g_ireturn (Or.inr ⟨rfl, rfl⟩) d_Tokens_isSign_59 rfl ?_
  cases h; exact hQ
def F_Tokens_isSign (p1 : Int32) : Option (Int32) :=
  (if p1 = 59 then J_Tokens_isSign_54 else (if p1 = 61 then J_Tokens_isSign_54 else (if p1 = 43 then J_Tokens_isSign_54 else (if p1 = 45 then J_Tokens_isSign_54 else (if p1 = 42 then J_Tokens_isSign_54 else (if p1 = 47 then J_Tokens_isSign_54 else (if p1 = 60 then J_Tokens_isSign_54 else (if p1 = 40 then J_Tokens_isSign_54 else (if p1 = 41 then J_Tokens_isSign_54 else some 0)))))))))
set_option maxHeartbeats 4000000 in
set_option maxRecDepth 20000 in
theorem f_Tokens_isSign {l : Launch} {ld : Nat} {M : gM} {L : gL} {Q : Option Value → gM → gL → gR → Prop} (hld : isLa ld) {p1 : Int32}  {q : Int32} (h : F_Tokens_isSign p1 = some q) (hQ : Q (some (.int q)) M L (rf ld)) : Tm l y_Tokens_isSign (0, 0, 447) 447 [.int p1] M L (rf ld) Q := by
  refine Tm.of (by decide) (Nat.le_of_ble_eq_true rfl) ?_
  show Wp l y_Tokens_isSign (0, 0, 447) 447 0 0 0 [(0, .int p1)] [] M L (rf ld) Q
  unfold F_Tokens_isSign at h
  refine g_iload_n (pc1 := 1) d_Tokens_isSign_0 rfl 0 rfl ?_
  refine g_bipush (pc1 := 3) (v := 59) d_Tokens_isSign_1 rfl (by decide) ?_
  refine g_icmp_eq (pc1 := 6) (tgt := 54) d_Tokens_isSign_3 (by decide) rfl (fun c1 => ?_) (fun c1 => ?_)
  · replace h := itp h c1
    refine Wp.loc (lv' := []) [] rfl ?_
    exact j_Tokens_isSign_54 hld  hQ  h
  · replace h := itn h c1
    refine g_iload_n (pc1 := 7) d_Tokens_isSign_6 rfl 0 rfl ?_
    refine g_bipush (pc1 := 9) (v := 61) d_Tokens_isSign_7 rfl (by decide) ?_
    refine g_icmp_eq (pc1 := 12) (tgt := 54) d_Tokens_isSign_9 (by decide) rfl (fun c2 => ?_) (fun c2 => ?_)
    · replace h := itp h c2
      refine Wp.loc (lv' := []) [] rfl ?_
      exact j_Tokens_isSign_54 hld  hQ  h
    · replace h := itn h c2
      refine g_iload_n (pc1 := 13) d_Tokens_isSign_12 rfl 0 rfl ?_
      refine g_bipush (pc1 := 15) (v := 43) d_Tokens_isSign_13 rfl (by decide) ?_
      refine g_icmp_eq (pc1 := 18) (tgt := 54) d_Tokens_isSign_15 (by decide) rfl (fun c3 => ?_) (fun c3 => ?_)
      · replace h := itp h c3
        refine Wp.loc (lv' := []) [] rfl ?_
        exact j_Tokens_isSign_54 hld  hQ  h
      · replace h := itn h c3
        refine g_iload_n (pc1 := 19) d_Tokens_isSign_18 rfl 0 rfl ?_
        refine g_bipush (pc1 := 21) (v := 45) d_Tokens_isSign_19 rfl (by decide) ?_
        refine g_icmp_eq (pc1 := 24) (tgt := 54) d_Tokens_isSign_21 (by decide) rfl (fun c4 => ?_) (fun c4 => ?_)
        · replace h := itp h c4
          refine Wp.loc (lv' := []) [] rfl ?_
          exact j_Tokens_isSign_54 hld  hQ  h
        · replace h := itn h c4
          refine g_iload_n (pc1 := 25) d_Tokens_isSign_24 rfl 0 rfl ?_
          refine g_bipush (pc1 := 27) (v := 42) d_Tokens_isSign_25 rfl (by decide) ?_
          refine g_icmp_eq (pc1 := 30) (tgt := 54) d_Tokens_isSign_27 (by decide) rfl (fun c5 => ?_) (fun c5 => ?_)
          · replace h := itp h c5
            refine Wp.loc (lv' := []) [] rfl ?_
            exact j_Tokens_isSign_54 hld  hQ  h
          · replace h := itn h c5
            refine g_iload_n (pc1 := 31) d_Tokens_isSign_30 rfl 0 rfl ?_
            refine g_bipush (pc1 := 33) (v := 47) d_Tokens_isSign_31 rfl (by decide) ?_
            refine g_icmp_eq (pc1 := 36) (tgt := 54) d_Tokens_isSign_33 (by decide) rfl (fun c6 => ?_) (fun c6 => ?_)
            · replace h := itp h c6
              refine Wp.loc (lv' := []) [] rfl ?_
              exact j_Tokens_isSign_54 hld  hQ  h
            · replace h := itn h c6
              refine g_iload_n (pc1 := 37) d_Tokens_isSign_36 rfl 0 rfl ?_
              refine g_bipush (pc1 := 39) (v := 60) d_Tokens_isSign_37 rfl (by decide) ?_
              refine g_icmp_eq (pc1 := 42) (tgt := 54) d_Tokens_isSign_39 (by decide) rfl (fun c7 => ?_) (fun c7 => ?_)
              · replace h := itp h c7
                refine Wp.loc (lv' := []) [] rfl ?_
                exact j_Tokens_isSign_54 hld  hQ  h
              · replace h := itn h c7
                refine g_iload_n (pc1 := 43) d_Tokens_isSign_42 rfl 0 rfl ?_
                refine g_bipush (pc1 := 45) (v := 40) d_Tokens_isSign_43 rfl (by decide) ?_
                refine g_icmp_eq (pc1 := 48) (tgt := 54) d_Tokens_isSign_45 (by decide) rfl (fun c8 => ?_) (fun c8 => ?_)
                · replace h := itp h c8
                  refine Wp.loc (lv' := []) [] rfl ?_
                  exact j_Tokens_isSign_54 hld  hQ  h
                · replace h := itn h c8
                  refine g_iload_n (pc1 := 49) d_Tokens_isSign_48 rfl 0 rfl ?_
                  refine g_bipush (pc1 := 51) (v := 41) d_Tokens_isSign_49 rfl (by decide) ?_
                  refine g_icmp_ne (pc1 := 54) (tgt := 58) d_Tokens_isSign_51 (by decide) rfl (fun c9 => ?_) (fun c9 => ?_)
                  · replace h := itn h c9
                    refine g_iconst (pc1 := 59) (v := 0) d_Tokens_isSign_58 rfl (by decide) ?_
                    refine g_ireturn (Or.inr ⟨rfl, rfl⟩) d_Tokens_isSign_59 rfl ?_
                    cases h; exact hQ
                  · replace h := itp h c9
                    refine Wp.loc (lv' := []) [] rfl ?_
                    exact j_Tokens_isSign_54 hld  hQ  h

def B_Tokens_kindOf_2 (v1 : Int64) (L : gL) (K2 : Int32 → Option (Int32)) : Int32 → Option (Int32) := fun v3 =>
  (if 21 ≤ v3 then some 2 else (if (v3 : Int32) < 0 ∨ 21 ≤ (v3 : Int32).toNatClampNeg then none else (if (lg_cmp (L 5 (v3 : Int32).toNatClampNeg) v1) = 0 then some (128 + v3) else nmI (v3 + 1) (fun x4 => K2 x4))))
def H_Tokens_kindOf_2 (v1 : Int64) (L : gL) : Nat → Int32 → Option (Int32) := lpK (B_Tokens_kindOf_2 v1 L) (fun _ => none)
set_option maxHeartbeats 4000000 in
set_option maxRecDepth 20000 in
theorem h_Tokens_kindOf_2 {l : Launch} {ld : Nat} {Q : Option Value → gM → gL → gR → Prop} (hld : isLa ld)   {q : Int32} {M : gM} {L : gL} (hQ : Q (some (.int q)) M L (rf ld))  {v1 : Int64}  : ∀ (f : Nat) (v3 : Int32), H_Tokens_kindOf_2 v1 L f v3 = some q → Wp l y_Tokens_kindOf (0, 0, 447) 447 0 0 2 [(0, .ref 4), (1, .long v1), (3, .int v3)] [] M L (rf ld) Q := by
  intro f
  induction f with
  | zero => intro v3 h; cases h
  | succ f hK2 =>
    intro v3 h
    replace h : B_Tokens_kindOf_2 v1 L (H_Tokens_kindOf_2 v1 L f) v3 = some q := h
    unfold B_Tokens_kindOf_2 at h
    refine g_iload_n (pc1 := 3) d_Tokens_kindOf_2 rfl 2 rfl ?_
    refine g_aload_n (pc1 := 4) d_Tokens_kindOf_3 rfl 0 rfl ?_
    refine g_getr (pc1 := 7) d_Tokens_kindOf_4 rfl ⟨_, fo_Tokens_9⟩ sh_4 (by decide) (rf_4_0 ld) ?_
    refine g_alen (pc1 := 8) (v := 21) d_Tokens_kindOf_7 rfl sh_5 (by decide) (by decide) (by decide) (by decide) ?_
    refine g_icmp_ge (pc1 := 11) (tgt := 34) d_Tokens_kindOf_8 (by decide) rfl (fun c1 => ?_) (fun c1 => ?_)
    · replace h := itp h c1
      refine g_iconst (pc1 := 35) (v := 2) d_Tokens_kindOf_34 rfl (by decide) ?_
      refine g_ireturn (Or.inl rfl) d_Tokens_kindOf_35 rfl ?_
      cases h; exact hQ
    · replace h := itn h c1
      refine g_aload_n (pc1 := 12) d_Tokens_kindOf_11 rfl 0 rfl ?_
      refine g_getr (pc1 := 15) d_Tokens_kindOf_12 rfl ⟨_, fo_Tokens_9⟩ sh_4 (by decide) (rf_4_0 ld) ?_
      refine g_iload_n (pc1 := 16) d_Tokens_kindOf_15 rfl 2 rfl ?_
      obtain ⟨g2, h⟩ := gdn h
      refine g_lald (pc1 := 17) d_Tokens_kindOf_16 rfl sh_5 (by decide) g2 ?_
      refine g_lload_n (pc1 := 18) d_Tokens_kindOf_17 rfl 1 rfl ?_
      refine g_lcmp (pc1 := 19) d_Tokens_kindOf_18 rfl ?_
      refine g_if_ne (pc1 := 22) (tgt := 28) d_Tokens_kindOf_19 (by decide) rfl (fun c3 => ?_) (fun c3 => ?_)
      · replace h := itn h c3
        obtain ⟨x4, ex4, h⟩ := ltI h
        refine g_iinc (pc1 := 31) (v := x4) (lv' := [(0, .ref 4), (1, .long v1), (3, .int x4)]) d_Tokens_kindOf_28 rfl 2 rfl (by rw [ex4]; rfl) (by decide) [1, 2, 0] rfl ?_
        refine g_goto (tgt := 2) d_Tokens_kindOf_31 (by decide) ?_
        exact hK2 x4 h
      · replace h := itp h c3
        refine g_sipush (pc1 := 25) (v := 128) d_Tokens_kindOf_22 rfl (by decide) ?_
        refine g_iload_n (pc1 := 26) d_Tokens_kindOf_25 rfl 2 rfl ?_
        refine g_iadd (pc1 := 27) d_Tokens_kindOf_26 rfl ?_
        refine g_ireturn (Or.inl rfl) d_Tokens_kindOf_27 rfl ?_
        cases h; exact hQ
def F_Tokens_kindOf (p1 : Int64) (L : gL) : Option (Int32) :=
  H_Tokens_kindOf_2 p1 L FU 0
set_option maxHeartbeats 4000000 in
set_option maxRecDepth 20000 in
theorem f_Tokens_kindOf {l : Launch} {ld : Nat} {M : gM} {L : gL} {Q : Option Value → gM → gL → gR → Prop} (hld : isLa ld) {p1 : Int64}  {q : Int32} (h : F_Tokens_kindOf p1 L = some q) (hQ : Q (some (.int q)) M L (rf ld)) : Tm l y_Tokens_kindOf (0, 0, 447) 447 [.ref 4, .long p1] M L (rf ld) Q := by
  refine Tm.of (by decide) (Nat.le_of_ble_eq_true rfl) ?_
  show Wp l y_Tokens_kindOf (0, 0, 447) 447 0 0 0 [(0, .ref 4), (1, .long p1)] [] M L (rf ld) Q
  unfold F_Tokens_kindOf at h
  refine g_iconst (pc1 := 1) (v := 0) d_Tokens_kindOf_0 rfl (by decide) ?_
  refine g_istore_n (pc1 := 2) (lv' := [(0, .ref 4), (1, .long p1), (3, .int 0)]) d_Tokens_kindOf_1 rfl rfl (by decide) [1, 2, 0] rfl ?_
  exact h_Tokens_kindOf_2 hld  hQ  _ 0 h

def F_Tokens_set (p1 : Int32) (p2 : Int32) (p3 : Int64) (M : gM) (L : gL) : Option (gM × gL) :=
  (if p1 < 0 then some (M, L) else (if 401 ≤ p1 then some (M, L) else (if 401 ≤ p1 then some (M, L) else (if (p1 : Int32) < 0 ∨ 401 ≤ (p1 : Int32).toNatClampNeg then none else nmM (uM M 6 (p1 : Int32).toNatClampNeg p2) (fun M5 => (if (p1 : Int32) < 0 ∨ 401 ≤ (p1 : Int32).toNatClampNeg then none else nmL (uL L 8 (p1 : Int32).toNatClampNeg p3) (fun L7 => some (M5, L7))))))))
set_option maxHeartbeats 4000000 in
set_option maxRecDepth 20000 in
theorem f_Tokens_set {l : Launch} {ld : Nat} {M : gM} {L : gL} {Q : Option Value → gM → gL → gR → Prop} (hld : isLa ld) {p1 : Int32} {p2 : Int32} {p3 : Int64}  {q : gM × gL} (h : F_Tokens_set p1 p2 p3 M L = some q) (hQ : Q none q.1 q.2 (rf ld)) : Tm l y_Tokens_set (0, 0, 447) 447 [.ref 4, .int p1, .int p2, .long p3] M L (rf ld) Q := by
  refine Tm.of (by decide) (Nat.le_of_ble_eq_true rfl) ?_
  show Wp l y_Tokens_set (0, 0, 447) 447 0 0 0 [(0, .ref 4), (1, .int p1), (2, .int p2), (3, .long p3)] [] M L (rf ld) Q
  unfold F_Tokens_set at h
  refine g_iload_n (pc1 := 1) d_Tokens_set_0 rfl 1 rfl ?_
  refine g_if_lt (pc1 := 4) (tgt := 36) d_Tokens_set_1 (by decide) rfl (fun c1 => ?_) (fun c1 => ?_)
  · replace h := itp h c1
    refine g_return rfl d_Tokens_set_36 rfl ?_
    cases h; exact hQ
  · replace h := itn h c1
    refine g_iload_n (pc1 := 5) d_Tokens_set_4 rfl 1 rfl ?_
    refine g_aload_n (pc1 := 6) d_Tokens_set_5 rfl 0 rfl ?_
    refine g_getr (pc1 := 9) d_Tokens_set_6 rfl ⟨_, fo_Tokens_15⟩ sh_4 (by decide) (rf_4_1 ld) ?_
    refine g_alen (pc1 := 10) (v := 401) d_Tokens_set_9 rfl sh_6 (by decide) (by decide) (by decide) (by decide) ?_
    refine g_icmp_ge (pc1 := 13) (tgt := 36) d_Tokens_set_10 (by decide) rfl (fun c2 => ?_) (fun c2 => ?_)
    · replace h := itp h c2
      refine g_return rfl d_Tokens_set_36 rfl ?_
      cases h; exact hQ
    · replace h := itn h c2
      refine g_iload_n (pc1 := 14) d_Tokens_set_13 rfl 1 rfl ?_
      refine g_aload_n (pc1 := 15) d_Tokens_set_14 rfl 0 rfl ?_
      refine g_getr (pc1 := 18) d_Tokens_set_15 rfl ⟨_, fo_Tokens_22⟩ sh_4 (by decide) (rf_4_3 ld) ?_
      refine g_alen (pc1 := 19) (v := 401) d_Tokens_set_18 rfl sh_8 (by decide) (by decide) (by decide) (by decide) ?_
      refine g_icmp_ge (pc1 := 22) (tgt := 36) d_Tokens_set_19 (by decide) rfl (fun c3 => ?_) (fun c3 => ?_)
      · replace h := itp h c3
        refine g_return rfl d_Tokens_set_36 rfl ?_
        cases h; exact hQ
      · replace h := itn h c3
        refine g_aload_n (pc1 := 23) d_Tokens_set_22 rfl 0 rfl ?_
        refine g_getr (pc1 := 26) d_Tokens_set_23 rfl ⟨_, fo_Tokens_15⟩ sh_4 (by decide) (rf_4_1 ld) ?_
        refine g_iload_n (pc1 := 27) d_Tokens_set_26 rfl 1 rfl ?_
        refine g_iload_n (pc1 := 28) d_Tokens_set_27 rfl 2 rfl ?_
        obtain ⟨g4, h⟩ := gdn h
        refine g_iast (pc1 := 29) d_Tokens_set_28 rfl sh_6 (by decide) g4 ?_
        refine Wp.lM h (fun M5 h => ?_)
        refine g_aload_n (pc1 := 30) d_Tokens_set_29 rfl 0 rfl ?_
        refine g_getr (pc1 := 33) d_Tokens_set_30 rfl ⟨_, fo_Tokens_22⟩ sh_4 (by decide) (rf_4_3 ld) ?_
        refine g_iload_n (pc1 := 34) d_Tokens_set_33 rfl 1 rfl ?_
        refine g_lload_n (pc1 := 35) d_Tokens_set_34 rfl 3 rfl ?_
        obtain ⟨g6, h⟩ := gdn h
        refine g_last (pc1 := 36) d_Tokens_set_35 rfl sh_8 (by decide) g6 ?_
        refine Wp.lL h (fun L7 h => ?_)
        refine g_return rfl d_Tokens_set_36 rfl ?_
        cases h; exact hQ

def F_Tokens_valueAt (p1 : Int32) (L : gL) : Option (Int64) :=
  (if p1 < 0 then some 0 else (if 401 ≤ p1 then some 0 else (if (p1 : Int32) < 0 ∨ 401 ≤ (p1 : Int32).toNatClampNeg then none else some (L 8 (p1 : Int32).toNatClampNeg))))
set_option maxHeartbeats 4000000 in
set_option maxRecDepth 20000 in
theorem f_Tokens_valueAt {l : Launch} {ld : Nat} {M : gM} {L : gL} {Q : Option Value → gM → gL → gR → Prop} (hld : isLa ld) {p1 : Int32}  {q : Int64} (h : F_Tokens_valueAt p1 L = some q) (hQ : Q (some (.long q)) M L (rf ld)) : Tm l y_Tokens_valueAt (0, 0, 447) 447 [.ref 4, .int p1] M L (rf ld) Q := by
  refine Tm.of (by decide) (Nat.le_of_ble_eq_true rfl) ?_
  show Wp l y_Tokens_valueAt (0, 0, 447) 447 0 0 0 [(0, .ref 4), (1, .int p1)] [] M L (rf ld) Q
  unfold F_Tokens_valueAt at h
  refine g_iload_n (pc1 := 1) d_Tokens_valueAt_0 rfl 1 rfl ?_
  refine g_if_lt (pc1 := 4) (tgt := 22) d_Tokens_valueAt_1 (by decide) rfl (fun c1 => ?_) (fun c1 => ?_)
  · replace h := itp h c1
    refine g_lconst (pc1 := 23) (v := 0) d_Tokens_valueAt_22 rfl (by decide) ?_
    refine g_lreturn rfl d_Tokens_valueAt_23 rfl ?_
    cases h; exact hQ
  · replace h := itn h c1
    refine g_iload_n (pc1 := 5) d_Tokens_valueAt_4 rfl 1 rfl ?_
    refine g_aload_n (pc1 := 6) d_Tokens_valueAt_5 rfl 0 rfl ?_
    refine g_getr (pc1 := 9) d_Tokens_valueAt_6 rfl ⟨_, fo_Tokens_22⟩ sh_4 (by decide) (rf_4_3 ld) ?_
    refine g_alen (pc1 := 10) (v := 401) d_Tokens_valueAt_9 rfl sh_8 (by decide) (by decide) (by decide) (by decide) ?_
    refine g_icmp_ge (pc1 := 13) (tgt := 22) d_Tokens_valueAt_10 (by decide) rfl (fun c2 => ?_) (fun c2 => ?_)
    · replace h := itp h c2
      refine g_lconst (pc1 := 23) (v := 0) d_Tokens_valueAt_22 rfl (by decide) ?_
      refine g_lreturn rfl d_Tokens_valueAt_23 rfl ?_
      cases h; exact hQ
    · replace h := itn h c2
      refine g_aload_n (pc1 := 14) d_Tokens_valueAt_13 rfl 0 rfl ?_
      refine g_getr (pc1 := 17) d_Tokens_valueAt_14 rfl ⟨_, fo_Tokens_22⟩ sh_4 (by decide) (rf_4_3 ld) ?_
      refine g_iload_n (pc1 := 18) d_Tokens_valueAt_17 rfl 1 rfl ?_
      obtain ⟨g3, h⟩ := gdn h
      refine g_lald (pc1 := 19) d_Tokens_valueAt_18 rfl sh_8 (by decide) g3 ?_
      refine g_goto (tgt := 23) d_Tokens_valueAt_19 (by decide) ?_
      refine g_lreturn rfl d_Tokens_valueAt_23 rfl ?_
      cases h; exact hQ

def F_Tokens_withLetter (p1 : Int64) (p2 : Int32) : Option (Int64) :=
  some ((p1 * 32) + ((((p2 - 97) + 1) : Int32).toInt64))
set_option maxHeartbeats 4000000 in
set_option maxRecDepth 20000 in
theorem f_Tokens_withLetter {l : Launch} {ld : Nat} {M : gM} {L : gL} {Q : Option Value → gM → gL → gR → Prop} (hld : isLa ld) {p1 : Int64} {p2 : Int32}  {q : Int64} (h : F_Tokens_withLetter p1 p2 = some q) (hQ : Q (some (.long q)) M L (rf ld)) : Tm l y_Tokens_withLetter (0, 0, 447) 447 [.long p1, .int p2] M L (rf ld) Q := by
  refine Tm.of (by decide) (Nat.le_of_ble_eq_true rfl) ?_
  show Wp l y_Tokens_withLetter (0, 0, 447) 447 0 0 0 [(0, .long p1), (2, .int p2)] [] M L (rf ld) Q
  unfold F_Tokens_withLetter at h
  refine g_lload_n (pc1 := 1) d_Tokens_withLetter_0 rfl 0 rfl ?_
  refine g_ldc2 (pc1 := 4) (v := 32) d_Tokens_withLetter_1 rfl co_Tokens_41 ?_
  refine g_lmul (pc1 := 5) d_Tokens_withLetter_4 rfl ?_
  refine g_iload_n (pc1 := 6) d_Tokens_withLetter_5 rfl 1 rfl ?_
  refine g_bipush (pc1 := 8) (v := 97) d_Tokens_withLetter_6 rfl (by decide) ?_
  refine g_isub (pc1 := 9) d_Tokens_withLetter_8 rfl ?_
  refine g_iconst (pc1 := 10) (v := 1) d_Tokens_withLetter_9 rfl (by decide) ?_
  refine g_iadd (pc1 := 11) d_Tokens_withLetter_10 rfl ?_
  refine g_i2l (pc1 := 12) d_Tokens_withLetter_11 rfl ?_
  refine g_ladd (pc1 := 13) d_Tokens_withLetter_12 rfl ?_
  refine g_lreturn rfl d_Tokens_withLetter_13 rfl ?_
  cases h; exact hQ

def F_Told_clear (M : gM) : Option (gM) :=
  nmM (uM M 383 3 0) (fun M1 => some M1)
set_option maxHeartbeats 4000000 in
set_option maxRecDepth 20000 in
theorem f_Told_clear {l : Launch} {ld : Nat} {M : gM} {L : gL} {Q : Option Value → gM → gL → gR → Prop} (hld : isLa ld)   {q : gM} (h : F_Told_clear M = some q) (hQ : Q none q L (rf ld)) : Tm l y_Told_clear (0, 0, 447) 447 [.ref 383] M L (rf ld) Q := by
  refine Tm.of (by decide) (Nat.le_of_ble_eq_true rfl) ?_
  show Wp l y_Told_clear (0, 0, 447) 447 0 0 0 [(0, .ref 383)] [] M L (rf ld) Q
  unfold F_Told_clear at h
  refine g_aload_n (pc1 := 1) d_Told_clear_0 rfl 0 rfl ?_
  refine g_iconst (pc1 := 2) (v := 0) d_Told_clear_1 rfl (by decide) ?_
  refine g_puti (pc1 := 5) d_Told_clear_2 rfl fo_Told_33 (po_9_3 _) sh_383 (by decide) ?_
  refine Wp.lM h (fun M1 h => ?_)
  refine g_return rfl d_Told_clear_5 rfl ?_
  cases h; exact hQ

def F_Int_bitCount (p1 : Int32) : Option (Int32) :=
  nmI (p1 - (((p1.toUInt32 >>> ((1 : Int32).toUInt32 &&& Int32.toUInt32 31)).toInt32) &&& 1431655765)) (fun x1 => nmI ((x1 &&& 858993459) + (((x1.toUInt32 >>> ((2 : Int32).toUInt32 &&& Int32.toUInt32 31)).toInt32) &&& 858993459)) (fun x2 => nmI ((x2 + ((x2.toUInt32 >>> ((4 : Int32).toUInt32 &&& Int32.toUInt32 31)).toInt32)) &&& 252645135) (fun x3 => nmI (x3 + ((x3.toUInt32 >>> ((8 : Int32).toUInt32 &&& Int32.toUInt32 31)).toInt32)) (fun x4 => nmI (x4 + ((x4.toUInt32 >>> ((16 : Int32).toUInt32 &&& Int32.toUInt32 31)).toInt32)) (fun x5 => some (x5 &&& 63))))))
set_option maxHeartbeats 4000000 in
set_option maxRecDepth 20000 in
theorem f_Int_bitCount {l : Launch} {ld : Nat} {M : gM} {L : gL} {Q : Option Value → gM → gL → gR → Prop} (hld : isLa ld) {p1 : Int32}  {q : Int32} (h : F_Int_bitCount p1 = some q) (hQ : Q (some (.int q)) M L (rf ld)) : Tm l y_Int_bitCount (0, 0, 447) 447 [.int p1] M L (rf ld) Q := by
  refine Tm.of (by decide) (Nat.le_of_ble_eq_true rfl) ?_
  show Wp l y_Int_bitCount (0, 0, 447) 447 0 0 0 [(0, .int p1)] [] M L (rf ld) Q
  unfold F_Int_bitCount at h
  refine g_iload_n (pc1 := 1) d_Int_bitCount_0 rfl 0 rfl ?_
  refine g_iload_n (pc1 := 2) d_Int_bitCount_1 rfl 0 rfl ?_
  refine g_iconst (pc1 := 3) (v := 1) d_Int_bitCount_2 rfl (by decide) ?_
  refine g_iushr (pc1 := 4) d_Int_bitCount_3 rfl ?_
  refine g_ldcw (pc1 := 7) (v := 1431655765) d_Int_bitCount_4 rfl co_Int_265 ?_
  refine g_iand (pc1 := 8) d_Int_bitCount_7 rfl ?_
  refine g_isub (pc1 := 9) d_Int_bitCount_8 rfl ?_
  refine Wp.lI h (fun x1 h => ?_)
  refine g_istore_n (pc1 := 10) (lv' := [(0, .int x1)]) d_Int_bitCount_9 rfl rfl (by decide) [0] rfl ?_
  refine g_iload_n (pc1 := 11) d_Int_bitCount_10 rfl 0 rfl ?_
  refine g_ldcw (pc1 := 14) (v := 858993459) d_Int_bitCount_11 rfl co_Int_266 ?_
  refine g_iand (pc1 := 15) d_Int_bitCount_14 rfl ?_
  refine g_iload_n (pc1 := 16) d_Int_bitCount_15 rfl 0 rfl ?_
  refine g_iconst (pc1 := 17) (v := 2) d_Int_bitCount_16 rfl (by decide) ?_
  refine g_iushr (pc1 := 18) d_Int_bitCount_17 rfl ?_
  refine g_ldcw (pc1 := 21) (v := 858993459) d_Int_bitCount_18 rfl co_Int_266 ?_
  refine g_iand (pc1 := 22) d_Int_bitCount_21 rfl ?_
  refine g_iadd (pc1 := 23) d_Int_bitCount_22 rfl ?_
  refine Wp.lI h (fun x2 h => ?_)
  refine g_istore_n (pc1 := 24) (lv' := [(0, .int x2)]) d_Int_bitCount_23 rfl rfl (by decide) [0] rfl ?_
  refine g_iload_n (pc1 := 25) d_Int_bitCount_24 rfl 0 rfl ?_
  refine g_iload_n (pc1 := 26) d_Int_bitCount_25 rfl 0 rfl ?_
  refine g_iconst (pc1 := 27) (v := 4) d_Int_bitCount_26 rfl (by decide) ?_
  refine g_iushr (pc1 := 28) d_Int_bitCount_27 rfl ?_
  refine g_iadd (pc1 := 29) d_Int_bitCount_28 rfl ?_
  refine g_ldcw (pc1 := 32) (v := 252645135) d_Int_bitCount_29 rfl co_Int_267 ?_
  refine g_iand (pc1 := 33) d_Int_bitCount_32 rfl ?_
  refine Wp.lI h (fun x3 h => ?_)
  refine g_istore_n (pc1 := 34) (lv' := [(0, .int x3)]) d_Int_bitCount_33 rfl rfl (by decide) [0] rfl ?_
  refine g_iload_n (pc1 := 35) d_Int_bitCount_34 rfl 0 rfl ?_
  refine g_iload_n (pc1 := 36) d_Int_bitCount_35 rfl 0 rfl ?_
  refine g_bipush (pc1 := 38) (v := 8) d_Int_bitCount_36 rfl (by decide) ?_
  refine g_iushr (pc1 := 39) d_Int_bitCount_38 rfl ?_
  refine g_iadd (pc1 := 40) d_Int_bitCount_39 rfl ?_
  refine Wp.lI h (fun x4 h => ?_)
  refine g_istore_n (pc1 := 41) (lv' := [(0, .int x4)]) d_Int_bitCount_40 rfl rfl (by decide) [0] rfl ?_
  refine g_iload_n (pc1 := 42) d_Int_bitCount_41 rfl 0 rfl ?_
  refine g_iload_n (pc1 := 43) d_Int_bitCount_42 rfl 0 rfl ?_
  refine g_bipush (pc1 := 45) (v := 16) d_Int_bitCount_43 rfl (by decide) ?_
  refine g_iushr (pc1 := 46) d_Int_bitCount_45 rfl ?_
  refine g_iadd (pc1 := 47) d_Int_bitCount_46 rfl ?_
  refine Wp.lI h (fun x5 h => ?_)
  refine g_istore_n (pc1 := 48) (lv' := [(0, .int x5)]) d_Int_bitCount_47 rfl rfl (by decide) [0] rfl ?_
  refine g_iload_n (pc1 := 49) d_Int_bitCount_48 rfl 0 rfl ?_
  refine g_bipush (pc1 := 51) (v := 63) d_Int_bitCount_49 rfl (by decide) ?_
  refine g_iand (pc1 := 52) d_Int_bitCount_51 rfl ?_
  refine g_ireturn (Or.inl rfl) d_Int_bitCount_52 rfl ?_
  cases h; exact hQ

def F_Main_forget (M : gM) : Option (Int32 × gM) :=
  nmI (M 383 3) (fun x1 => bI (F_Told_clear M) (fun M3 => some (x1, M3)))
set_option maxHeartbeats 4000000 in
set_option maxRecDepth 20000 in
theorem f_Main_forget {l : Launch} {ld : Nat} {M : gM} {L : gL} {Q : Option Value → gM → gL → gR → Prop} (hld : isLa ld)   {q : Int32 × gM} (h : F_Main_forget M = some q) (hQ : Q (some (.int q.1)) q.2 L (rf ld)) : Tm l y_Main_forget (0, 0, 447) 447 [.ref 0] M L (rf ld) Q := by
  refine Tm.of (by decide) (Nat.le_of_ble_eq_true rfl) ?_
  show Wp l y_Main_forget (0, 0, 447) 447 0 0 0 [(0, .ref 0)] [] M L (rf ld) Q
  unfold F_Main_forget at h
  refine g_aload_n (pc1 := 1) d_Main_forget_0 rfl 0 rfl ?_
  refine g_getr (pc1 := 4) d_Main_forget_1 rfl ⟨_, fo_Main_60⟩ sh_0 (by decide) (rf_0_8 ld) ?_
  refine g_geti (pc1 := 7) d_Main_forget_4 rfl ⟨_, fo_Main_275⟩ sh_383 (by decide) ?_
  refine Wp.lI h (fun x1 h => ?_)
  refine g_istore_n (pc1 := 8) (lv' := [(0, .ref 0), (1, .int x1)]) d_Main_forget_7 rfl rfl (by decide) [1, 0] rfl ?_
  refine g_aload_n (pc1 := 9) d_Main_forget_8 rfl 0 rfl ?_
  refine g_getr (pc1 := 12) d_Main_forget_9 rfl ⟨_, fo_Main_60⟩ sh_0 (by decide) (rf_0_8 ld) ?_
  refine g_callV0 (pc1 := 15) (As := []) (rest := []) d_Main_forget_12 rfl mo_Main_108 mi_Told_clear mv_Told_clear rfl sh_383 (by decide) (by decide) rfl rfl (Nat.le_of_ble_eq_true rfl) ?_
  obtain ⟨M3, hq2, h⟩ := bnd h
  refine f_Told_clear hld  hq2 ?_
  dsimp only [psh]
  refine g_iload_n (pc1 := 16) d_Main_forget_15 rfl 1 rfl ?_
  refine g_ireturn (Or.inl rfl) d_Main_forget_16 rfl ?_
  cases h; exact hQ

def F_Main_within (p1 : Int32) (p2 : Int32) (p3 : Int32) : Option (Int32) :=
  some (if p2 < (if p1 < p3 then p1 else p3) then (if p1 < p3 then p1 else p3) else p2)
set_option maxHeartbeats 4000000 in
set_option maxRecDepth 20000 in
theorem f_Main_within {l : Launch} {ld : Nat} {M : gM} {L : gL} {Q : Option Value → gM → gL → gR → Prop} (hld : isLa ld) {p1 : Int32} {p2 : Int32} {p3 : Int32}  {q : Int32} (h : F_Main_within p1 p2 p3 = some q) (hQ : Q (some (.int q)) M L (rf ld)) : Tm l y_Main_within (0, 0, 447) 447 [.int p1, .int p2, .int p3] M L (rf ld) Q := by
  refine Tm.of (by decide) (Nat.le_of_ble_eq_true rfl) ?_
  show Wp l y_Main_within (0, 0, 447) 447 0 0 0 [(0, .int p1), (1, .int p2), (2, .int p3)] [] M L (rf ld) Q
  unfold F_Main_within at h
  refine g_iload_n (pc1 := 1) d_Main_within_0 rfl 1 rfl ?_
  refine g_iload_n (pc1 := 2) d_Main_within_1 rfl 2 rfl ?_
  refine g_iload_n (pc1 := 3) d_Main_within_2 rfl 0 rfl ?_
  refine g_mmin (pc1 := 6) d_Main_within_3 rfl mm_Main_313 (by decide) ⟨Nat.le_refl 0, Nat.le_refl 0⟩ (Nat.le_of_ble_eq_true rfl) ?_
  refine g_mmax (pc1 := 9) d_Main_within_6 rfl mm_Main_316 (by decide) ⟨Nat.le_refl 0, Nat.le_refl 0⟩ (Nat.le_of_ble_eq_true rfl) ?_
  refine g_ireturn (Or.inl rfl) d_Main_within_9 rfl ?_
  cases h; exact hQ

def F_Land_broughtBy (Ld0 : Nat) (p1 : Int32) (p2 : Int32) (M : gM) : Option (Int32) :=
  bI (F_Main_at (Ld0 + 3) 18 ((p1 * 3) + p2) M) (fun r2 => some r2)
set_option maxHeartbeats 4000000 in
set_option maxRecDepth 20000 in
theorem f_Land_broughtBy {l : Launch} {ld : Nat} {M : gM} {L : gL} {Q : Option Value → gM → gL → gR → Prop} (hld : isLa ld) {Ld0 : Nat} {p1 : Int32} {p2 : Int32} (hLd0 : isLa Ld0) {q : Int32} (h : F_Land_broughtBy Ld0 p1 p2 M = some q) (hQ : Q (some (.int q)) M L (rf ld)) : Tm l y_Land_broughtBy (0, 0, 447) 447 [.ref Ld0, .int p1, .int p2] M L (rf ld) Q := by
  refine Tm.of (by decide) (Nat.le_of_ble_eq_true rfl) ?_
  show Wp l y_Land_broughtBy (0, 0, 447) 447 0 0 0 [(0, .ref Ld0), (1, .int p1), (2, .int p2)] [] M L (rf ld) Q
  unfold F_Land_broughtBy at h
  refine g_aload_n (pc1 := 1) d_Land_broughtBy_0 rfl 0 rfl ?_
  refine g_getr (pc1 := 4) d_Land_broughtBy_1 rfl ⟨_, fo_Land_18⟩ (shLa_0 hLd0) (ltLa_0 hLd0) (rfLa_7 ld hLd0) ?_
  refine g_iload_n (pc1 := 5) d_Land_broughtBy_4 rfl 1 rfl ?_
  refine g_iconst (pc1 := 6) (v := 3) d_Land_broughtBy_5 rfl (by decide) ?_
  refine g_imul (pc1 := 7) d_Land_broughtBy_6 rfl ?_
  refine g_iload_n (pc1 := 8) d_Land_broughtBy_7 rfl 2 rfl ?_
  refine g_iadd (pc1 := 9) d_Land_broughtBy_8 rfl ?_
  refine g_callS0 (pc1 := 12) (As := [.ref (Ld0 + 3), .int ((p1 * 3) + p2)]) (rest := []) d_Land_broughtBy_9 rfl mo_Land_78 ms_Main_at (by decide) rfl rfl (Nat.le_of_ble_eq_true rfl) ?_
  obtain ⟨r2, hq1, h⟩ := bnd h
  refine f_Main_at hld (shLa_3 hLd0) (ltLa_3 hLd0) (by decide) hq1 ?_
  dsimp only [psh]
  refine g_ireturn (Or.inl rfl) d_Land_broughtBy_12 rfl ?_
  cases h; exact hQ

def F_Land_clear (Ld0 : Nat) (M : gM) : Option (gM) :=
  nmM (uM M Ld0 0 0) (fun M1 => nmM (uM M1 Ld0 1 0) (fun M2 => nmM (uM M2 Ld0 2 0) (fun M3 => nmM (uM M3 Ld0 3 0) (fun M4 => nmM (uM M4 Ld0 4 0) (fun M5 => bI (F_Main_wipe (Ld0 + 5) 30 M5) (fun M7 => bI (F_Law_clear (Ld0 + 9) M7) (fun M9 => bI (F_Law_clear (Ld0 + 13) M9) (fun M11 => bI (F_Law_clear (Ld0 + 17) M11) (fun M13 => bI (F_Law_clear (Ld0 + 21) M13) (fun M15 => some M15))))))))))
set_option maxHeartbeats 4000000 in
set_option maxRecDepth 20000 in
theorem f_Land_clear {l : Launch} {ld : Nat} {M : gM} {L : gL} {Q : Option Value → gM → gL → gR → Prop} (hld : isLa ld) {Ld0 : Nat} (hLd0 : isLa Ld0) {q : gM} (h : F_Land_clear Ld0 M = some q) (hQ : Q none q L (rf ld)) : Tm l y_Land_clear (0, 0, 447) 447 [.ref Ld0] M L (rf ld) Q := by
  refine Tm.of (by decide) (Nat.le_of_ble_eq_true rfl) ?_
  show Wp l y_Land_clear (0, 0, 447) 447 0 0 0 [(0, .ref Ld0)] [] M L (rf ld) Q
  unfold F_Land_clear at h
  refine g_aload_n (pc1 := 1) d_Land_clear_0 rfl 0 rfl ?_
  refine g_iconst (pc1 := 2) (v := 0) d_Land_clear_1 rfl (by decide) ?_
  refine g_puti (pc1 := 5) d_Land_clear_2 rfl fo_Land_55 (po_4_0 _) (shLa_0 hLd0) (ltLa_0 hLd0) ?_
  refine Wp.lM h (fun M1 h => ?_)
  refine g_aload_n (pc1 := 6) d_Land_clear_5 rfl 0 rfl ?_
  refine g_iconst (pc1 := 7) (v := 0) d_Land_clear_6 rfl (by decide) ?_
  refine g_puti (pc1 := 10) d_Land_clear_7 rfl fo_Land_59 (po_4_1 _) (shLa_0 hLd0) (ltLa_0 hLd0) ?_
  refine Wp.lM h (fun M2 h => ?_)
  refine g_aload_n (pc1 := 11) d_Land_clear_10 rfl 0 rfl ?_
  refine g_iconst (pc1 := 12) (v := 0) d_Land_clear_11 rfl (by decide) ?_
  refine g_puti (pc1 := 15) d_Land_clear_12 rfl fo_Land_62 (po_4_2 _) (shLa_0 hLd0) (ltLa_0 hLd0) ?_
  refine Wp.lM h (fun M3 h => ?_)
  refine g_aload_n (pc1 := 16) d_Land_clear_15 rfl 0 rfl ?_
  refine g_iconst (pc1 := 17) (v := 0) d_Land_clear_16 rfl (by decide) ?_
  refine g_puti (pc1 := 20) d_Land_clear_17 rfl fo_Land_65 (po_4_3 _) (shLa_0 hLd0) (ltLa_0 hLd0) ?_
  refine Wp.lM h (fun M4 h => ?_)
  refine g_aload_n (pc1 := 21) d_Land_clear_20 rfl 0 rfl ?_
  refine g_iconst (pc1 := 22) (v := 0) d_Land_clear_21 rfl (by decide) ?_
  refine g_puti (pc1 := 25) d_Land_clear_22 rfl fo_Land_68 (po_4_4 _) (shLa_0 hLd0) (ltLa_0 hLd0) ?_
  refine Wp.lM h (fun M5 h => ?_)
  refine g_aload_n (pc1 := 26) d_Land_clear_25 rfl 0 rfl ?_
  refine g_getr (pc1 := 29) d_Land_clear_26 rfl ⟨_, fo_Land_24⟩ (shLa_0 hLd0) (ltLa_0 hLd0) (rfLa_9 ld hLd0) ?_
  refine g_callS0 (pc1 := 32) (As := [.ref (Ld0 + 5)]) (rest := []) d_Land_clear_29 rfl mo_Land_71 ms_Main_wipe (by decide) rfl rfl (Nat.le_of_ble_eq_true rfl) ?_
  obtain ⟨M7, hq6, h⟩ := bnd h
  refine f_Main_wipe hld (shLa_5 hLd0) (ltLa_5 hLd0) (by decide) hq6 ?_
  dsimp only [psh]
  refine g_aload_n (pc1 := 33) d_Land_clear_32 rfl 0 rfl ?_
  refine g_getr (pc1 := 36) d_Land_clear_33 rfl ⟨_, fo_Land_39⟩ (shLa_0 hLd0) (ltLa_0 hLd0) (rfLa_13 ld hLd0) ?_
  refine g_callV0 (pc1 := 39) (As := []) (rest := []) d_Land_clear_36 rfl mo_Land_75 mi_Law_clear mv_Law_clear rfl (shLw_0 (isLw_9 hLd0)) (ltLw_0 (isLw_9 hLd0)) (by decide) rfl rfl (Nat.le_of_ble_eq_true rfl) ?_
  obtain ⟨M9, hq8, h⟩ := bnd h
  refine f_Law_clear hld (isLw_9 hLd0) hq8 ?_
  dsimp only [psh]
  refine g_aload_n (pc1 := 40) d_Land_clear_39 rfl 0 rfl ?_
  refine g_getr (pc1 := 43) d_Land_clear_40 rfl ⟨_, fo_Land_43⟩ (shLa_0 hLd0) (ltLa_0 hLd0) (rfLa_14 ld hLd0) ?_
  refine g_callV0 (pc1 := 46) (As := []) (rest := []) d_Land_clear_43 rfl mo_Land_75 mi_Law_clear mv_Law_clear rfl (shLw_0 (isLw_13 hLd0)) (ltLw_0 (isLw_13 hLd0)) (by decide) rfl rfl (Nat.le_of_ble_eq_true rfl) ?_
  obtain ⟨M11, hq10, h⟩ := bnd h
  refine f_Law_clear hld (isLw_13 hLd0) hq10 ?_
  dsimp only [psh]
  refine g_aload_n (pc1 := 47) d_Land_clear_46 rfl 0 rfl ?_
  refine g_getr (pc1 := 50) d_Land_clear_47 rfl ⟨_, fo_Land_46⟩ (shLa_0 hLd0) (ltLa_0 hLd0) (rfLa_15 ld hLd0) ?_
  refine g_callV0 (pc1 := 53) (As := []) (rest := []) d_Land_clear_50 rfl mo_Land_75 mi_Law_clear mv_Law_clear rfl (shLw_0 (isLw_17 hLd0)) (ltLw_0 (isLw_17 hLd0)) (by decide) rfl rfl (Nat.le_of_ble_eq_true rfl) ?_
  obtain ⟨M13, hq12, h⟩ := bnd h
  refine f_Law_clear hld (isLw_17 hLd0) hq12 ?_
  dsimp only [psh]
  refine g_aload_n (pc1 := 54) d_Land_clear_53 rfl 0 rfl ?_
  refine g_getr (pc1 := 57) d_Land_clear_54 rfl ⟨_, fo_Land_49⟩ (shLa_0 hLd0) (ltLa_0 hLd0) (rfLa_16 ld hLd0) ?_
  refine g_callV0 (pc1 := 60) (As := []) (rest := []) d_Land_clear_57 rfl mo_Land_75 mi_Law_clear mv_Law_clear rfl (shLw_0 (isLw_21 hLd0)) (ltLw_0 (isLw_21 hLd0)) (by decide) rfl rfl (Nat.le_of_ble_eq_true rfl) ?_
  obtain ⟨M15, hq14, h⟩ := bnd h
  refine f_Law_clear hld (isLw_21 hLd0) hq14 ?_
  dsimp only [psh]
  refine g_return rfl d_Land_clear_60 rfl ?_
  cases h; exact hQ

def J_Land_freeUnder_47 (Ld0 : Nat) (K5 : Int32 → Int32 → Option (Int32)) (v1 : Int32) (v2 : Int32) (v3 : Int32) (v4 : Int32) (M : gM) : Option (Int32) :=
  nmI (v4 + 1) (fun x5 => K5 v3 x5)
set_option maxHeartbeats 4000000 in
set_option maxRecDepth 20000 in
theorem j_Land_freeUnder_47 {l : Launch} {ld : Nat} {Q : Option Value → gM → gL → gR → Prop} (hld : isLa ld) {Ld0 : Nat} (hLd0 : isLa Ld0) {q : Int32} {M : gM} {L : gL} (hQ : Q (some (.int q)) M L (rf ld)) {K5 : Int32 → Int32 → Option (Int32)} {v1 : Int32} {v2 : Int32} {v3 : Int32} {v4 : Int32} (hK5 : ∀ (w3 : Int32) (w4 : Int32), K5 w3 w4 = some q → Wp l y_Land_freeUnder (0, 0, 447) 447 0 0 5 [(0, .ref Ld0), (1, .int v1), (2, .int v2), (3, .int w3), (4, .int w4)] [] M L (rf ld) Q) (h : J_Land_freeUnder_47 Ld0 K5 v1 v2 v3 v4 M = some q) : Wp l y_Land_freeUnder (0, 0, 447) 447 0 0 47 [(0, .ref Ld0), (1, .int v1), (2, .int v2), (3, .int v3), (4, .int v4)] [] M L (rf ld) Q := by
  unfold J_Land_freeUnder_47 at h
  obtain ⟨x5, ex5, h⟩ := ltI h
  refine g_iinc (pc1 := 50) (v := x5) (lv' := [(0, .ref Ld0), (1, .int v1), (2, .int v2), (3, .int v3), (4, .int x5)]) d_Land_freeUnder_47 rfl 4 rfl (by rw [ex5]; rfl) (by decide) [1, 2, 3, 4, 0] rfl ?_
  refine g_goto (tgt := 5) d_Land_freeUnder_50 (by decide) ?_
  exact hK5 v3 x5 h
def B_Land_freeUnder_5 (Ld0 : Nat) (v1 : Int32) (v2 : Int32) (M : gM) (K5 : Int32 → Int32 → Option (Int32)) : Int32 → Int32 → Option (Int32) := fun v3 v4 =>
  (if (M Ld0 3) ≤ v4 then some v3 else bI (F_Main_at (Ld0 + 7) 6 v4 M) (fun r3 => (if r3 = v1 then bI (F_Main_at (Ld0 + 8) 6 v4 M) (fun r7 => (if r7 ≤ v2 then J_Land_freeUnder_47 Ld0 K5 v1 v2 v3 v4 M else nmI (v3 ||| (1 <<< (v4 &&& 31))) (fun x9 => J_Land_freeUnder_47 Ld0 K5 v1 v2 x9 v4 M))) else J_Land_freeUnder_47 Ld0 K5 v1 v2 v3 v4 M)))
def H_Land_freeUnder_5 (Ld0 : Nat) (v1 : Int32) (v2 : Int32) (M : gM) : Nat → Int32 → Int32 → Option (Int32) := lpK (B_Land_freeUnder_5 Ld0 v1 v2 M) (fun _ _ => none)
set_option maxHeartbeats 4000000 in
set_option maxRecDepth 20000 in
theorem h_Land_freeUnder_5 {l : Launch} {ld : Nat} {Q : Option Value → gM → gL → gR → Prop} (hld : isLa ld) {Ld0 : Nat} (hLd0 : isLa Ld0) {q : Int32} {M : gM} {L : gL} (hQ : Q (some (.int q)) M L (rf ld))  {v1 : Int32} {v2 : Int32}  : ∀ (f : Nat) (v3 : Int32) (v4 : Int32), H_Land_freeUnder_5 Ld0 v1 v2 M f v3 v4 = some q → Wp l y_Land_freeUnder (0, 0, 447) 447 0 0 5 [(0, .ref Ld0), (1, .int v1), (2, .int v2), (3, .int v3), (4, .int v4)] [] M L (rf ld) Q := by
  intro f
  induction f with
  | zero => intro v3 v4 h; cases h
  | succ f hK5 =>
    intro v3 v4 h
    replace h : B_Land_freeUnder_5 Ld0 v1 v2 M (H_Land_freeUnder_5 Ld0 v1 v2 M f) v3 v4 = some q := h
    unfold B_Land_freeUnder_5 at h
    refine g_iload (pc1 := 7) d_Land_freeUnder_5 rfl 4 rfl ?_
    refine g_aload_n (pc1 := 8) d_Land_freeUnder_7 rfl 0 rfl ?_
    refine g_geti (pc1 := 11) d_Land_freeUnder_8 rfl ⟨_, fo_Land_65⟩ (shLa_0 hLd0) (ltLa_0 hLd0) ?_
    refine g_icmp_ge (pc1 := 14) (tgt := 53) d_Land_freeUnder_11 (by decide) rfl (fun c1 => ?_) (fun c1 => ?_)
    · replace h := itp h c1
      refine g_iload_n (pc1 := 54) d_Land_freeUnder_53 rfl 3 rfl ?_
      refine g_ireturn (Or.inl rfl) d_Land_freeUnder_54 rfl ?_
      cases h; exact hQ
    · replace h := itn h c1
      refine g_aload_n (pc1 := 15) d_Land_freeUnder_14 rfl 0 rfl ?_
      refine g_getr (pc1 := 18) d_Land_freeUnder_15 rfl ⟨_, fo_Land_30⟩ (shLa_0 hLd0) (ltLa_0 hLd0) (rfLa_11 ld hLd0) ?_
      refine g_iload (pc1 := 20) d_Land_freeUnder_18 rfl 4 rfl ?_
      refine g_callS0 (pc1 := 23) (As := [.ref (Ld0 + 7), .int v4]) (rest := []) d_Land_freeUnder_20 rfl mo_Land_78 ms_Main_at (by decide) rfl rfl (Nat.le_of_ble_eq_true rfl) ?_
      obtain ⟨r3, hq2, h⟩ := bnd h
      refine f_Main_at hld (shLa_7 hLd0) (ltLa_7 hLd0) (by decide) hq2 ?_
      dsimp only [psh]
      refine g_iload_n (pc1 := 24) d_Land_freeUnder_23 rfl 1 rfl ?_
      refine g_icmp_ne (pc1 := 27) (tgt := 47) d_Land_freeUnder_24 (by decide) rfl (fun c4 => ?_) (fun c4 => ?_)
      · replace h := itn h c4
        exact j_Land_freeUnder_47 hld hLd0 hQ hK5 h
      · replace h := itp h c4
        refine g_iload_n (pc1 := 28) d_Land_freeUnder_27 rfl 2 rfl ?_
        refine g_aload_n (pc1 := 29) d_Land_freeUnder_28 rfl 0 rfl ?_
        refine g_getr (pc1 := 32) d_Land_freeUnder_29 rfl ⟨_, fo_Land_33⟩ (shLa_0 hLd0) (ltLa_0 hLd0) (rfLa_12 ld hLd0) ?_
        refine g_iload (pc1 := 34) d_Land_freeUnder_32 rfl 4 rfl ?_
        refine g_callS0 (pc1 := 37) (As := [.ref (Ld0 + 8), .int v4]) (rest := [.int v2]) d_Land_freeUnder_34 rfl mo_Land_78 ms_Main_at (by decide) rfl rfl (Nat.le_of_ble_eq_true rfl) ?_
        obtain ⟨r7, hq6, h⟩ := bnd h
        refine f_Main_at hld (shLa_8 hLd0) (ltLa_8 hLd0) (by decide) hq6 ?_
        dsimp only [psh]
        refine g_icmp_ge (pc1 := 40) (tgt := 47) d_Land_freeUnder_37 (by decide) rfl (fun c8 => ?_) (fun c8 => ?_)
        · replace h := itp h c8
          exact j_Land_freeUnder_47 hld hLd0 hQ hK5 h
        · replace h := itn h c8
          refine g_iload_n (pc1 := 41) d_Land_freeUnder_40 rfl 3 rfl ?_
          refine g_iconst (pc1 := 42) (v := 1) d_Land_freeUnder_41 rfl (by decide) ?_
          refine g_iload (pc1 := 44) d_Land_freeUnder_42 rfl 4 rfl ?_
          refine g_ishl (pc1 := 45) d_Land_freeUnder_44 rfl ?_
          refine g_ior (pc1 := 46) d_Land_freeUnder_45 rfl ?_
          refine Wp.lI h (fun x9 h => ?_)
          refine g_istore_n (pc1 := 47) (lv' := [(0, .ref Ld0), (1, .int v1), (2, .int v2), (3, .int x9), (4, .int v4)]) d_Land_freeUnder_46 rfl rfl (by decide) [1, 2, 3, 0, 4] rfl ?_
          exact j_Land_freeUnder_47 hld hLd0 hQ hK5 h
def F_Land_freeUnder (Ld0 : Nat) (p1 : Int32) (p2 : Int32) (M : gM) : Option (Int32) :=
  H_Land_freeUnder_5 Ld0 p1 p2 M FU 0 0
set_option maxHeartbeats 4000000 in
set_option maxRecDepth 20000 in
theorem f_Land_freeUnder {l : Launch} {ld : Nat} {M : gM} {L : gL} {Q : Option Value → gM → gL → gR → Prop} (hld : isLa ld) {Ld0 : Nat} {p1 : Int32} {p2 : Int32} (hLd0 : isLa Ld0) {q : Int32} (h : F_Land_freeUnder Ld0 p1 p2 M = some q) (hQ : Q (some (.int q)) M L (rf ld)) : Tm l y_Land_freeUnder (0, 0, 447) 447 [.ref Ld0, .int p1, .int p2] M L (rf ld) Q := by
  refine Tm.of (by decide) (Nat.le_of_ble_eq_true rfl) ?_
  show Wp l y_Land_freeUnder (0, 0, 447) 447 0 0 0 [(0, .ref Ld0), (1, .int p1), (2, .int p2)] [] M L (rf ld) Q
  unfold F_Land_freeUnder at h
  refine g_iconst (pc1 := 1) (v := 0) d_Land_freeUnder_0 rfl (by decide) ?_
  refine g_istore_n (pc1 := 2) (lv' := [(0, .ref Ld0), (1, .int p1), (2, .int p2), (3, .int 0)]) d_Land_freeUnder_1 rfl rfl (by decide) [1, 2, 3, 0] rfl ?_
  refine g_iconst (pc1 := 3) (v := 0) d_Land_freeUnder_2 rfl (by decide) ?_
  refine g_istore (pc1 := 5) (lv' := [(0, .ref Ld0), (1, .int p1), (2, .int p2), (3, .int 0), (4, .int 0)]) d_Land_freeUnder_3 rfl (by decide) [1, 2, 3, 4, 0] rfl ?_
  exact h_Land_freeUnder_5 hld hLd0 hQ  _ 0 0 h

def F_Land_inDish (Ld0 : Nat) (p1 : Int32) (p2 : Int32) (M : gM) : Option (Int32) :=
  bI (F_Main_at (Ld0 + 5) 30 ((p1 * 6) + p2) M) (fun r2 => some r2)
set_option maxHeartbeats 4000000 in
set_option maxRecDepth 20000 in
theorem f_Land_inDish {l : Launch} {ld : Nat} {M : gM} {L : gL} {Q : Option Value → gM → gL → gR → Prop} (hld : isLa ld) {Ld0 : Nat} {p1 : Int32} {p2 : Int32} (hLd0 : isLa Ld0) {q : Int32} (h : F_Land_inDish Ld0 p1 p2 M = some q) (hQ : Q (some (.int q)) M L (rf ld)) : Tm l y_Land_inDish (0, 0, 447) 447 [.ref Ld0, .int p1, .int p2] M L (rf ld) Q := by
  refine Tm.of (by decide) (Nat.le_of_ble_eq_true rfl) ?_
  show Wp l y_Land_inDish (0, 0, 447) 447 0 0 0 [(0, .ref Ld0), (1, .int p1), (2, .int p2)] [] M L (rf ld) Q
  unfold F_Land_inDish at h
  refine g_aload_n (pc1 := 1) d_Land_inDish_0 rfl 0 rfl ?_
  refine g_getr (pc1 := 4) d_Land_inDish_1 rfl ⟨_, fo_Land_24⟩ (shLa_0 hLd0) (ltLa_0 hLd0) (rfLa_9 ld hLd0) ?_
  refine g_iload_n (pc1 := 5) d_Land_inDish_4 rfl 1 rfl ?_
  refine g_bipush (pc1 := 7) (v := 6) d_Land_inDish_5 rfl (by decide) ?_
  refine g_imul (pc1 := 8) d_Land_inDish_7 rfl ?_
  refine g_iload_n (pc1 := 9) d_Land_inDish_8 rfl 2 rfl ?_
  refine g_iadd (pc1 := 10) d_Land_inDish_9 rfl ?_
  refine g_callS0 (pc1 := 13) (As := [.ref (Ld0 + 5), .int ((p1 * 6) + p2)]) (rest := []) d_Land_inDish_10 rfl mo_Land_78 ms_Main_at (by decide) rfl rfl (Nat.le_of_ble_eq_true rfl) ?_
  obtain ⟨r2, hq1, h⟩ := bnd h
  refine f_Main_at hld (shLa_5 hLd0) (ltLa_5 hLd0) (by decide) hq1 ?_
  dsimp only [psh]
  refine g_ireturn (Or.inl rfl) d_Land_inDish_13 rfl ?_
  cases h; exact hQ

def F_Land_lot (p1 : Int32) (p2 : Int32) (p3 : Int32) : Option (Int32) :=
  bI (F_Land_stirred p2 103) (fun r2 => bI (F_Land_stirred r2 p3) (fun r4 => (if p1 ≤ 0 then some 0 else (if p1 = 0 then none else some (((r4.toUInt32 >>> ((1 : Int32).toUInt32 &&& Int32.toUInt32 31)).toInt32) - ((r4.toUInt32 >>> ((1 : Int32).toUInt32 &&& Int32.toUInt32 31)).toInt32) / p1 * p1)))))
set_option maxHeartbeats 4000000 in
set_option maxRecDepth 20000 in
theorem f_Land_lot {l : Launch} {ld : Nat} {M : gM} {L : gL} {Q : Option Value → gM → gL → gR → Prop} (hld : isLa ld) {p1 : Int32} {p2 : Int32} {p3 : Int32}  {q : Int32} (h : F_Land_lot p1 p2 p3 = some q) (hQ : Q (some (.int q)) M L (rf ld)) : Tm l y_Land_lot (0, 0, 447) 447 [.int p1, .int p2, .int p3] M L (rf ld) Q := by
  refine Tm.of (by decide) (Nat.le_of_ble_eq_true rfl) ?_
  show Wp l y_Land_lot (0, 0, 447) 447 0 0 0 [(0, .int p1), (1, .int p2), (2, .int p3)] [] M L (rf ld) Q
  unfold F_Land_lot at h
  refine g_iload_n (pc1 := 1) d_Land_lot_0 rfl 1 rfl ?_
  refine g_bipush (pc1 := 3) (v := 103) d_Land_lot_1 rfl (by decide) ?_
  refine g_callS0 (pc1 := 6) (As := [.int p2, .int 103]) (rest := []) d_Land_lot_3 rfl mo_Land_130 ms_Land_stirred (by decide) rfl rfl (Nat.le_of_ble_eq_true rfl) ?_
  obtain ⟨r2, hq1, h⟩ := bnd h
  refine f_Land_stirred hld  hq1 ?_
  dsimp only [psh]
  refine g_iload_n (pc1 := 7) d_Land_lot_6 rfl 2 rfl ?_
  refine g_callS0 (pc1 := 10) (As := [.int r2, .int p3]) (rest := []) d_Land_lot_7 rfl mo_Land_130 ms_Land_stirred (by decide) rfl rfl (Nat.le_of_ble_eq_true rfl) ?_
  obtain ⟨r4, hq3, h⟩ := bnd h
  refine f_Land_stirred hld  hq3 ?_
  dsimp only [psh]
  refine g_istore_n (pc1 := 11) (lv' := [(0, .int p1), (1, .int p2), (2, .int p3), (3, .int r4)]) d_Land_lot_10 rfl rfl (by decide) [1, 2, 3, 0] rfl ?_
  refine g_iload_n (pc1 := 12) d_Land_lot_11 rfl 0 rfl ?_
  refine g_if_le (pc1 := 15) (tgt := 23) d_Land_lot_12 (by decide) rfl (fun c5 => ?_) (fun c5 => ?_)
  · replace h := itp h c5
    refine g_iconst (pc1 := 24) (v := 0) d_Land_lot_23 rfl (by decide) ?_
    refine g_ireturn (Or.inl rfl) d_Land_lot_24 rfl ?_
    cases h; exact hQ
  · replace h := itn h c5
    refine g_iload_n (pc1 := 16) d_Land_lot_15 rfl 3 rfl ?_
    refine g_iconst (pc1 := 17) (v := 1) d_Land_lot_16 rfl (by decide) ?_
    refine g_iushr (pc1 := 18) d_Land_lot_17 rfl ?_
    refine g_iload_n (pc1 := 19) d_Land_lot_18 rfl 0 rfl ?_
    obtain ⟨g6, h⟩ := gdn h
    refine g_irem (pc1 := 20) d_Land_lot_19 rfl g6 ?_
    refine g_goto (tgt := 24) d_Land_lot_20 (by decide) ?_
    refine g_ireturn (Or.inl rfl) d_Land_lot_24 rfl ?_
    cases h; exact hQ

def F_Law_closeIf (Wl0 : Nat) (p1 : Int32) (M : gM) : Option (gM) :=
  bI (F_Law_add Wl0 20059 M) (fun M2 => bI (F_Main_put (Wl0 + 1) 400 p1 (M2 Wl0 1) M2) (fun M4 => some M4))
set_option maxHeartbeats 4000000 in
set_option maxRecDepth 20000 in
theorem f_Law_closeIf {l : Launch} {ld : Nat} {M : gM} {L : gL} {Q : Option Value → gM → gL → gR → Prop} (hld : isLa ld) {Wl0 : Nat} {p1 : Int32} (hWl0 : isLw Wl0) {q : gM} (h : F_Law_closeIf Wl0 p1 M = some q) (hQ : Q none q L (rf ld)) : Tm l y_Law_closeIf (0, 0, 447) 447 [.ref Wl0, .int p1] M L (rf ld) Q := by
  refine Tm.of (by decide) (Nat.le_of_ble_eq_true rfl) ?_
  show Wp l y_Law_closeIf (0, 0, 447) 447 0 0 0 [(0, .ref Wl0), (1, .int p1)] [] M L (rf ld) Q
  unfold F_Law_closeIf at h
  refine g_aload_n (pc1 := 1) d_Law_closeIf_0 rfl 0 rfl ?_
  refine g_sipush (pc1 := 4) (v := 20059) d_Law_closeIf_1 rfl (by decide) ?_
  refine g_callV0 (pc1 := 7) (As := [.int 20059]) (rest := []) d_Law_closeIf_4 rfl mo_Law_29 mi_Law_add mv_Law_add rfl (shLw_0 hWl0) (ltLw_0 hWl0) (by decide) rfl rfl (Nat.le_of_ble_eq_true rfl) ?_
  obtain ⟨M2, hq1, h⟩ := bnd h
  refine f_Law_add hld hWl0 hq1 ?_
  dsimp only [psh]
  refine g_aload_n (pc1 := 8) d_Law_closeIf_7 rfl 0 rfl ?_
  refine g_getr (pc1 := 11) d_Law_closeIf_8 rfl ⟨_, fo_Law_11⟩ (shLw_0 hWl0) (ltLw_0 hWl0) (rfLw_0 ld hWl0) ?_
  refine g_iload_n (pc1 := 12) d_Law_closeIf_11 rfl 1 rfl ?_
  refine g_aload_n (pc1 := 13) d_Law_closeIf_12 rfl 0 rfl ?_
  refine g_geti (pc1 := 16) d_Law_closeIf_13 rfl ⟨_, fo_Law_21⟩ (shLw_0 hWl0) (ltLw_0 hWl0) ?_
  refine g_callS0 (pc1 := 19) (As := [.ref (Wl0 + 1), .int p1, .int (M2 Wl0 1)]) (rest := []) d_Law_closeIf_16 rfl mo_Law_25 ms_Main_put (by decide) rfl rfl (Nat.le_of_ble_eq_true rfl) ?_
  obtain ⟨M4, hq3, h⟩ := bnd h
  refine f_Main_put hld (shLw_1 hWl0) (ltLw_1 hWl0) (by decide) hq3 ?_
  dsimp only [psh]
  refine g_return rfl d_Law_closeIf_19 rfl ?_
  cases h; exact hQ

def F_Law_let (Wl0 : Nat) (p1 : Int32) (p2 : Int32) (M : gM) : Option (gM) :=
  bI (F_Main_put (Wl0 + 2) 9 p1 p2 M) (fun M2 => some M2)
set_option maxHeartbeats 4000000 in
set_option maxRecDepth 20000 in
theorem f_Law_let {l : Launch} {ld : Nat} {M : gM} {L : gL} {Q : Option Value → gM → gL → gR → Prop} (hld : isLa ld) {Wl0 : Nat} {p1 : Int32} {p2 : Int32} (hWl0 : isLw Wl0) {q : gM} (h : F_Law_let Wl0 p1 p2 M = some q) (hQ : Q none q L (rf ld)) : Tm l y_Law_let (0, 0, 447) 447 [.ref Wl0, .int p1, .int p2] M L (rf ld) Q := by
  refine Tm.of (by decide) (Nat.le_of_ble_eq_true rfl) ?_
  show Wp l y_Law_let (0, 0, 447) 447 0 0 0 [(0, .ref Wl0), (1, .int p1), (2, .int p2)] [] M L (rf ld) Q
  unfold F_Law_let at h
  refine g_aload_n (pc1 := 1) d_Law_let_0 rfl 0 rfl ?_
  refine g_getr (pc1 := 4) d_Law_let_1 rfl ⟨_, fo_Law_15⟩ (shLw_0 hWl0) (ltLw_0 hWl0) (rfLw_2 ld hWl0) ?_
  refine g_iload_n (pc1 := 5) d_Law_let_4 rfl 1 rfl ?_
  refine g_iload_n (pc1 := 6) d_Law_let_5 rfl 2 rfl ?_
  refine g_callS0 (pc1 := 9) (As := [.ref (Wl0 + 2), .int p1, .int p2]) (rest := []) d_Law_let_6 rfl mo_Law_25 ms_Main_put (by decide) rfl rfl (Nat.le_of_ble_eq_true rfl) ?_
  obtain ⟨M2, hq1, h⟩ := bnd h
  refine f_Main_put hld (shLw_2 hWl0) (ltLw_2 hWl0) (by decide) hq1 ?_
  dsimp only [psh]
  refine g_return rfl d_Law_let_9 rfl ?_
  cases h; exact hQ

def F_Law_openIf (Wl0 : Nat) (M : gM) : Option (Int32 × gM) :=
  bI (F_Law_add Wl0 20060 M) (fun M2 => bI (F_Law_add Wl0 0 M2) (fun M4 => some (((M4 Wl0 1) - 1), M4)))
set_option maxHeartbeats 4000000 in
set_option maxRecDepth 20000 in
theorem f_Law_openIf {l : Launch} {ld : Nat} {M : gM} {L : gL} {Q : Option Value → gM → gL → gR → Prop} (hld : isLa ld) {Wl0 : Nat} (hWl0 : isLw Wl0) {q : Int32 × gM} (h : F_Law_openIf Wl0 M = some q) (hQ : Q (some (.int q.1)) q.2 L (rf ld)) : Tm l y_Law_openIf (0, 0, 447) 447 [.ref Wl0] M L (rf ld) Q := by
  refine Tm.of (by decide) (Nat.le_of_ble_eq_true rfl) ?_
  show Wp l y_Law_openIf (0, 0, 447) 447 0 0 0 [(0, .ref Wl0)] [] M L (rf ld) Q
  unfold F_Law_openIf at h
  refine g_aload_n (pc1 := 1) d_Law_openIf_0 rfl 0 rfl ?_
  refine g_sipush (pc1 := 4) (v := 20060) d_Law_openIf_1 rfl (by decide) ?_
  refine g_callV0 (pc1 := 7) (As := [.int 20060]) (rest := []) d_Law_openIf_4 rfl mo_Law_29 mi_Law_add mv_Law_add rfl (shLw_0 hWl0) (ltLw_0 hWl0) (by decide) rfl rfl (Nat.le_of_ble_eq_true rfl) ?_
  obtain ⟨M2, hq1, h⟩ := bnd h
  refine f_Law_add hld hWl0 hq1 ?_
  dsimp only [psh]
  refine g_aload_n (pc1 := 8) d_Law_openIf_7 rfl 0 rfl ?_
  refine g_iconst (pc1 := 9) (v := 0) d_Law_openIf_8 rfl (by decide) ?_
  refine g_callV0 (pc1 := 12) (As := [.int 0]) (rest := []) d_Law_openIf_9 rfl mo_Law_29 mi_Law_add mv_Law_add rfl (shLw_0 hWl0) (ltLw_0 hWl0) (by decide) rfl rfl (Nat.le_of_ble_eq_true rfl) ?_
  obtain ⟨M4, hq3, h⟩ := bnd h
  refine f_Law_add hld hWl0 hq3 ?_
  dsimp only [psh]
  refine g_aload_n (pc1 := 13) d_Law_openIf_12 rfl 0 rfl ?_
  refine g_geti (pc1 := 16) d_Law_openIf_13 rfl ⟨_, fo_Law_21⟩ (shLw_0 hWl0) (ltLw_0 hWl0) ?_
  refine g_iconst (pc1 := 17) (v := 1) d_Law_openIf_16 rfl (by decide) ?_
  refine g_isub (pc1 := 18) d_Law_openIf_17 rfl ?_
  refine g_ireturn (Or.inl rfl) d_Law_openIf_18 rfl ?_
  cases h; exact hQ

def J_Law_value_232 (Wl0 : Nat) (M : gM) : Option (Int32 × gM) :=
  bI (F_Main_at (Wl0 + 3) 32 0 M) (fun r3 => some (r3, M))
set_option maxHeartbeats 4000000 in
set_option maxRecDepth 20000 in
theorem j_Law_value_232 {l : Launch} {ld : Nat} {Q : Option Value → gM → gL → gR → Prop} (hld : isLa ld) {Wl0 : Nat} (hWl0 : isLw Wl0) {q : Int32 × gM} {M : gM} {L : gL} (hQ : Q (some (.int q.1)) q.2 L (rf ld))    (h : J_Law_value_232 Wl0 M = some q) : Wp l y_Law_value (0, 0, 447) 447 0 0 232 [(0, .ref Wl0)] [] M L (rf ld) Q := by
  unfold J_Law_value_232 at h
  refine g_aload_n (pc1 := 233) d_Law_value_232 rfl 0 rfl ?_
  refine g_getr (pc1 := 236) d_Law_value_233 rfl ⟨_, fo_Law_18⟩ (shLw_0 hWl0) (ltLw_0 hWl0) (rfLw_3 ld hWl0) ?_
  refine g_iconst (pc1 := 237) (v := 0) d_Law_value_236 rfl (by decide) ?_
  refine g_callS0 (pc1 := 240) (As := [.ref (Wl0 + 3), .int 0]) (rest := []) d_Law_value_237 rfl mo_Law_33 ms_Main_at (by decide) rfl rfl (Nat.le_of_ble_eq_true rfl) ?_
  obtain ⟨r3, hq2, h⟩ := bnd h
  refine f_Main_at hld (shLw_3 hWl0) (ltLw_3 hWl0) (by decide) hq2 ?_
  dsimp only [psh]
  refine g_ireturn (Or.inl rfl) d_Law_value_240 rfl ?_
  cases h; exact hQ
def J_Law_value_226 (Wl0 : Nat) (K6 : Int32 → Int32 → Int32 → gM → Option (Int32 × gM)) (v1 : Int32) (v2 : Int32) (v3 : Int32) (M : gM) : Option (Int32 × gM) :=
  nmI (v3 + 1) (fun x26 => K6 v1 v2 x26 M)
set_option maxHeartbeats 4000000 in
set_option maxRecDepth 20000 in
theorem j_Law_value_226 {l : Launch} {ld : Nat} {Q : Option Value → gM → gL → gR → Prop} (hld : isLa ld) {Wl0 : Nat} (hWl0 : isLw Wl0) {q : Int32 × gM} {M : gM} {L : gL} (hQ : Q (some (.int q.1)) q.2 L (rf ld)) {K6 : Int32 → Int32 → Int32 → gM → Option (Int32 × gM)} {v1 : Int32} {v2 : Int32} {v3 : Int32} (hK6 : ∀ (w1 : Int32) (w2 : Int32) (w3 : Int32) (M : gM), K6 w1 w2 w3 M = some q → Wp l y_Law_value (0, 0, 447) 447 0 0 6 [(0, .ref Wl0), (1, .int w1), (2, .int w2), (3, .int w3)] [] M L (rf ld) Q) (h : J_Law_value_226 Wl0 K6 v1 v2 v3 M = some q) : Wp l y_Law_value (0, 0, 447) 447 0 0 226 [(0, .ref Wl0), (1, .int v1), (2, .int v2), (3, .int v3)] [] M L (rf ld) Q := by
  unfold J_Law_value_226 at h
  obtain ⟨x26, ex26, h⟩ := ltI h
  refine g_iinc (pc1 := 229) (v := x26) (lv' := [(0, .ref Wl0), (1, .int v1), (2, .int v2), (3, .int x26)]) d_Law_value_226 rfl 3 rfl (by rw [ex26]; rfl) (by decide) [1, 2, 3, 0] rfl ?_
  refine g_goto (tgt := 6) d_Law_value_229 (by decide) ?_
  exact hK6 v1 v2 x26 M h
def J_Law_value_204 (Wl0 : Nat) (K6 : Int32 → Int32 → Int32 → gM → Option (Int32 × gM)) (v1 : Int32) (v2 : Int32) (v3 : Int32) (v4 : Int32) (v5 : Int32) (v6 : Int32) (M : gM) : Option (Int32 × gM) :=
  bI (F_Law_reckon (v4 - 20000) v5 v6) (fun r22 => (if (v1 : Int32) < 0 ∨ 32 ≤ (v1 : Int32).toNatClampNeg then none else nmM (uM M (Wl0 + 3) (v1 : Int32).toNatClampNeg r22) (fun M24 => nmI (v1 + 1) (fun x25 => J_Law_value_226 Wl0 K6 x25 v2 v3 M24))))
set_option maxHeartbeats 4000000 in
set_option maxRecDepth 20000 in
theorem j_Law_value_204 {l : Launch} {ld : Nat} {Q : Option Value → gM → gL → gR → Prop} (hld : isLa ld) {Wl0 : Nat} (hWl0 : isLw Wl0) {q : Int32 × gM} {M : gM} {L : gL} (hQ : Q (some (.int q.1)) q.2 L (rf ld)) {K6 : Int32 → Int32 → Int32 → gM → Option (Int32 × gM)} {v1 : Int32} {v2 : Int32} {v3 : Int32} {v4 : Int32} {v5 : Int32} {v6 : Int32} (hK6 : ∀ (w1 : Int32) (w2 : Int32) (w3 : Int32) (M : gM), K6 w1 w2 w3 M = some q → Wp l y_Law_value (0, 0, 447) 447 0 0 6 [(0, .ref Wl0), (1, .int w1), (2, .int w2), (3, .int w3)] [] M L (rf ld) Q) (h : J_Law_value_204 Wl0 K6 v1 v2 v3 v4 v5 v6 M = some q) : Wp l y_Law_value (0, 0, 447) 447 0 0 204 [(0, .ref Wl0), (1, .int v1), (2, .int v2), (3, .int v3), (4, .int v4), (5, .int v5), (6, .int v6)] [] M L (rf ld) Q := by
  unfold J_Law_value_204 at h
  refine g_aload_n (pc1 := 205) d_Law_value_204 rfl 0 rfl ?_
  refine g_getr (pc1 := 208) d_Law_value_205 rfl ⟨_, fo_Law_18⟩ (shLw_0 hWl0) (ltLw_0 hWl0) (rfLw_3 ld hWl0) ?_
  refine g_iload_n (pc1 := 209) d_Law_value_208 rfl 1 rfl ?_
  refine g_iload (pc1 := 211) d_Law_value_209 rfl 4 rfl ?_
  refine g_sipush (pc1 := 214) (v := 20000) d_Law_value_211 rfl (by decide) ?_
  refine g_isub (pc1 := 215) d_Law_value_214 rfl ?_
  refine g_iload (pc1 := 217) d_Law_value_215 rfl 5 rfl ?_
  refine g_iload (pc1 := 219) d_Law_value_217 rfl 6 rfl ?_
  refine g_callS0 (pc1 := 222) (As := [.int (v4 - 20000), .int v5, .int v6]) (rest := [.int v1, .ref (Wl0 + 3)]) d_Law_value_219 rfl mo_Law_37 ms_Law_reckon (by decide) rfl rfl (Nat.le_of_ble_eq_true rfl) ?_
  obtain ⟨r22, hq21, h⟩ := bnd h
  refine f_Law_reckon hld  hq21 ?_
  dsimp only [psh]
  obtain ⟨g23, h⟩ := gdn h
  refine g_iast (pc1 := 223) d_Law_value_222 rfl (shLw_3 hWl0) (ltLw_3 hWl0) g23 ?_
  refine Wp.lM h (fun M24 h => ?_)
  obtain ⟨x25, ex25, h⟩ := ltI h
  refine g_iinc (pc1 := 226) (v := x25) (lv' := [(0, .ref Wl0), (1, .int x25), (2, .int v2), (3, .int v3), (4, .int v4), (5, .int v5), (6, .int v6)]) d_Law_value_223 rfl 1 rfl (by rw [ex25]; rfl) (by decide) [1, 0, 2, 3, 4, 5, 6] rfl ?_
  refine Wp.loc (lv' := [(0, .ref Wl0), (1, .int x25), (2, .int v2), (3, .int v3)]) [0, 1, 2, 3] rfl ?_
  exact j_Law_value_226 hld hWl0 hQ hK6 h
def J_Law_value_185 (Wl0 : Nat) (K6 : Int32 → Int32 → Int32 → gM → Option (Int32 × gM)) (v1 : Int32) (v3 : Int32) (s0 : Int32) (M : gM) : Option (Int32 × gM) :=
  J_Law_value_226 Wl0 K6 v1 s0 v3 M
set_option maxHeartbeats 4000000 in
set_option maxRecDepth 20000 in
theorem j_Law_value_185 {l : Launch} {ld : Nat} {Q : Option Value → gM → gL → gR → Prop} (hld : isLa ld) {Wl0 : Nat} (hWl0 : isLw Wl0) {q : Int32 × gM} {M : gM} {L : gL} (hQ : Q (some (.int q.1)) q.2 L (rf ld)) {K6 : Int32 → Int32 → Int32 → gM → Option (Int32 × gM)} {v1 : Int32} {v3 : Int32} {s0 : Int32} (hK6 : ∀ (w1 : Int32) (w2 : Int32) (w3 : Int32) (M : gM), K6 w1 w2 w3 M = some q → Wp l y_Law_value (0, 0, 447) 447 0 0 6 [(0, .ref Wl0), (1, .int w1), (2, .int w2), (3, .int w3)] [] M L (rf ld) Q) (h : J_Law_value_185 Wl0 K6 v1 v3 s0 M = some q) : Wp l y_Law_value (0, 0, 447) 447 0 0 185 [(0, .ref Wl0), (1, .int v1), (3, .int v3)] [.int s0] M L (rf ld) Q := by
  unfold J_Law_value_185 at h
  refine g_istore_n (pc1 := 186) (lv' := [(0, .ref Wl0), (1, .int v1), (2, .int s0), (3, .int v3)]) d_Law_value_185 rfl rfl (by decide) [1, 2, 0, 3] rfl ?_
  refine g_goto (tgt := 226) d_Law_value_186 (by decide) ?_
  exact j_Law_value_226 hld hWl0 hQ hK6 h
def J_Law_value_110 (Wl0 : Nat) (K6 : Int32 → Int32 → Int32 → gM → Option (Int32 × gM)) (v1 : Int32) (v2 : Int32) (v3 : Int32) (s1 : Int32) (s2 : Int32) (M : gM) : Option (Int32 × gM) :=
  (if (s1 : Int32) < 0 ∨ 32 ≤ (s1 : Int32).toNatClampNeg then none else nmM (uM M (Wl0 + 3) (s1 : Int32).toNatClampNeg s2) (fun M37 => nmI (v1 + 1) (fun x38 => J_Law_value_226 Wl0 K6 x38 v2 v3 M37)))
set_option maxHeartbeats 4000000 in
set_option maxRecDepth 20000 in
theorem j_Law_value_110 {l : Launch} {ld : Nat} {Q : Option Value → gM → gL → gR → Prop} (hld : isLa ld) {Wl0 : Nat} (hWl0 : isLw Wl0) {q : Int32 × gM} {M : gM} {L : gL} (hQ : Q (some (.int q.1)) q.2 L (rf ld)) {K6 : Int32 → Int32 → Int32 → gM → Option (Int32 × gM)} {v1 : Int32} {v2 : Int32} {v3 : Int32} {s1 : Int32} {s2 : Int32} (hK6 : ∀ (w1 : Int32) (w2 : Int32) (w3 : Int32) (M : gM), K6 w1 w2 w3 M = some q → Wp l y_Law_value (0, 0, 447) 447 0 0 6 [(0, .ref Wl0), (1, .int w1), (2, .int w2), (3, .int w3)] [] M L (rf ld) Q) (h : J_Law_value_110 Wl0 K6 v1 v2 v3 s1 s2 M = some q) : Wp l y_Law_value (0, 0, 447) 447 0 0 110 [(0, .ref Wl0), (1, .int v1), (2, .int v2), (3, .int v3)] [.int s2, .int s1, .ref (Wl0 + 3)] M L (rf ld) Q := by
  unfold J_Law_value_110 at h
  obtain ⟨g36, h⟩ := gdn h
  refine g_iast (pc1 := 111) d_Law_value_110 rfl (shLw_3 hWl0) (ltLw_3 hWl0) g36 ?_
  refine Wp.lM h (fun M37 h => ?_)
  obtain ⟨x38, ex38, h⟩ := ltI h
  refine g_iinc (pc1 := 114) (v := x38) (lv' := [(0, .ref Wl0), (1, .int x38), (2, .int v2), (3, .int v3)]) d_Law_value_111 rfl 1 rfl (by rw [ex38]; rfl) (by decide) [1, 0, 2, 3] rfl ?_
  refine g_goto (tgt := 226) d_Law_value_114 (by decide) ?_
  exact j_Law_value_226 hld hWl0 hQ hK6 h
def J_Law_value_53 (Wl0 : Nat) (M : gM) : Option (Int32 × gM) :=
  J_Law_value_232 Wl0 M
set_option maxHeartbeats 4000000 in
set_option maxRecDepth 20000 in
theorem j_Law_value_53 {l : Launch} {ld : Nat} {Q : Option Value → gM → gL → gR → Prop} (hld : isLa ld) {Wl0 : Nat} (hWl0 : isLw Wl0) {q : Int32 × gM} {M : gM} {L : gL} (hQ : Q (some (.int q.1)) q.2 L (rf ld))    (h : J_Law_value_53 Wl0 M = some q) : Wp l y_Law_value (0, 0, 447) 447 0 0 53 [(0, .ref Wl0)] [] M L (rf ld) Q := by
  unfold J_Law_value_53 at h
  refine g_goto (tgt := 232) d_Law_value_53 (by decide) ?_
  exact j_Law_value_232 hld hWl0 hQ  h
def B_Law_value_6 (Wl0 : Nat) (K6 : Int32 → Int32 → Int32 → gM → Option (Int32 × gM)) : Int32 → Int32 → Int32 → gM → Option (Int32 × gM) := fun v1 v2 v3 M =>
  (if 400 ≤ v3 then J_Law_value_232 Wl0 M else (if v2 < 0 then J_Law_value_232 Wl0 M else (if (M Wl0 1) ≤ v2 then J_Law_value_232 Wl0 M else (if 400 ≤ v2 then J_Law_value_232 Wl0 M else (if (v2 : Int32) < 0 ∨ 400 ≤ (v2 : Int32).toNatClampNeg then none else nmI (M (Wl0 + 1) (v2 : Int32).toNatClampNeg) (fun x8 => nmI (v2 + 1) (fun x9 => (if x8 = 20059 then J_Law_value_53 Wl0 M else (if 20000 ≤ x8 then (if v1 < 2 then some (0, M) else (if v1 ≤ 32 then (if ((v1 - 2) : Int32) < 0 ∨ 32 ≤ ((v1 - 2) : Int32).toNatClampNeg then none else nmI (M (Wl0 + 3) ((v1 - 2) : Int32).toNatClampNeg) (fun x15 => (if ((v1 - 1) : Int32) < 0 ∨ 32 ≤ ((v1 - 1) : Int32).toNatClampNeg then none else nmI (M (Wl0 + 3) ((v1 - 1) : Int32).toNatClampNeg) (fun x17 => nmI (v1 + (-2)) (fun x18 => (if x8 = 20060 then (if x17 ≤ x15 then bI (F_Main_at (Wl0 + 1) 400 x9 M) (fun r30 => J_Law_value_185 Wl0 K6 x18 v3 r30 M) else J_Law_value_185 Wl0 K6 x18 v3 (x9 + 1) M) else (if x8 = 20047 then (if x17 = 0 then some (0, M) else J_Law_value_204 Wl0 K6 x18 x9 v3 x8 x15 x17 M) else J_Law_value_204 Wl0 K6 x18 x9 v3 x8 x15 x17 M))))))) else some (0, M))) else (if v1 < 0 then some (0, M) else (if v1 < 32 then (if 10000 ≤ x8 then bI (F_Main_at (Wl0 + 2) 9 (x8 - 10000) M) (fun r35 => J_Law_value_110 Wl0 K6 v1 x9 v3 v1 r35 M) else J_Law_value_110 Wl0 K6 v1 x9 v3 v1 x8 M) else some (0, M))))))))))))
def H_Law_value_6 (Wl0 : Nat) : Nat → Int32 → Int32 → Int32 → gM → Option (Int32 × gM) := lpK (B_Law_value_6 Wl0) (fun _ _ _ _ => none)
set_option maxHeartbeats 4000000 in
set_option maxRecDepth 20000 in
theorem h_Law_value_6 {l : Launch} {ld : Nat} {Q : Option Value → gM → gL → gR → Prop} (hld : isLa ld) {Wl0 : Nat} (hWl0 : isLw Wl0) {q : Int32 × gM} {L : gL} (hQ : Q (some (.int q.1)) q.2 L (rf ld))    : ∀ (f : Nat) (v1 : Int32) (v2 : Int32) (v3 : Int32) (M : gM), H_Law_value_6 Wl0 f v1 v2 v3 M = some q → Wp l y_Law_value (0, 0, 447) 447 0 0 6 [(0, .ref Wl0), (1, .int v1), (2, .int v2), (3, .int v3)] [] M L (rf ld) Q := by
  intro f
  induction f with
  | zero => intro v1 v2 v3 M h; cases h
  | succ f hK6 =>
    intro v1 v2 v3 M h
    replace h : B_Law_value_6 Wl0 (H_Law_value_6 Wl0 f) v1 v2 v3 M = some q := h
    unfold B_Law_value_6 at h
    refine g_iload_n (pc1 := 7) d_Law_value_6 rfl 3 rfl ?_
    refine g_sipush (pc1 := 10) (v := 400) d_Law_value_7 rfl (by decide) ?_
    refine g_icmp_ge (pc1 := 13) (tgt := 232) d_Law_value_10 (by decide) rfl (fun c1 => ?_) (fun c1 => ?_)
    · replace h := itp h c1
      refine Wp.loc (lv' := [(0, .ref Wl0)]) [0] rfl ?_
      exact j_Law_value_232 hld hWl0 hQ  h
    · replace h := itn h c1
      refine g_iload_n (pc1 := 14) d_Law_value_13 rfl 2 rfl ?_
      refine g_if_lt (pc1 := 17) (tgt := 232) d_Law_value_14 (by decide) rfl (fun c4 => ?_) (fun c4 => ?_)
      · replace h := itp h c4
        refine Wp.loc (lv' := [(0, .ref Wl0)]) [0] rfl ?_
        exact j_Law_value_232 hld hWl0 hQ  h
      · replace h := itn h c4
        refine g_iload_n (pc1 := 18) d_Law_value_17 rfl 2 rfl ?_
        refine g_aload_n (pc1 := 19) d_Law_value_18 rfl 0 rfl ?_
        refine g_geti (pc1 := 22) d_Law_value_19 rfl ⟨_, fo_Law_21⟩ (shLw_0 hWl0) (ltLw_0 hWl0) ?_
        refine g_icmp_ge (pc1 := 25) (tgt := 232) d_Law_value_22 (by decide) rfl (fun c5 => ?_) (fun c5 => ?_)
        · replace h := itp h c5
          refine Wp.loc (lv' := [(0, .ref Wl0)]) [0] rfl ?_
          exact j_Law_value_232 hld hWl0 hQ  h
        · replace h := itn h c5
          refine g_iload_n (pc1 := 26) d_Law_value_25 rfl 2 rfl ?_
          refine g_aload_n (pc1 := 27) d_Law_value_26 rfl 0 rfl ?_
          refine g_getr (pc1 := 30) d_Law_value_27 rfl ⟨_, fo_Law_11⟩ (shLw_0 hWl0) (ltLw_0 hWl0) (rfLw_0 ld hWl0) ?_
          refine g_alen (pc1 := 31) (v := 400) d_Law_value_30 rfl (shLw_1 hWl0) (by decide) (by decide) (ltLw_1 hWl0) (by decide) ?_
          refine g_icmp_ge (pc1 := 34) (tgt := 232) d_Law_value_31 (by decide) rfl (fun c6 => ?_) (fun c6 => ?_)
          · replace h := itp h c6
            refine Wp.loc (lv' := [(0, .ref Wl0)]) [0] rfl ?_
            exact j_Law_value_232 hld hWl0 hQ  h
          · replace h := itn h c6
            refine g_aload_n (pc1 := 35) d_Law_value_34 rfl 0 rfl ?_
            refine g_getr (pc1 := 38) d_Law_value_35 rfl ⟨_, fo_Law_11⟩ (shLw_0 hWl0) (ltLw_0 hWl0) (rfLw_0 ld hWl0) ?_
            refine g_iload_n (pc1 := 39) d_Law_value_38 rfl 2 rfl ?_
            obtain ⟨g7, h⟩ := gdn h
            refine g_iald (pc1 := 40) d_Law_value_39 rfl (shLw_1 hWl0) (ltLw_1 hWl0) g7 ?_
            refine Wp.lI h (fun x8 h => ?_)
            refine g_istore (pc1 := 42) (lv' := [(0, .ref Wl0), (1, .int v1), (2, .int v2), (3, .int v3), (4, .int x8)]) d_Law_value_40 rfl (by decide) [1, 2, 3, 4, 0] rfl ?_
            obtain ⟨x9, ex9, h⟩ := ltI h
            refine g_iinc (pc1 := 45) (v := x9) (lv' := [(0, .ref Wl0), (1, .int v1), (2, .int x9), (3, .int v3), (4, .int x8)]) d_Law_value_42 rfl 2 rfl (by rw [ex9]; rfl) (by decide) [1, 2, 0, 3, 4] rfl ?_
            refine g_iload (pc1 := 47) d_Law_value_45 rfl 4 rfl ?_
            refine g_sipush (pc1 := 50) (v := 20059) d_Law_value_47 rfl (by decide) ?_
            refine g_icmp_ne (pc1 := 53) (tgt := 56) d_Law_value_50 (by decide) rfl (fun c10 => ?_) (fun c10 => ?_)
            · replace h := itn h c10
              refine g_iload (pc1 := 58) d_Law_value_56 rfl 4 rfl ?_
              refine g_sipush (pc1 := 61) (v := 20000) d_Law_value_58 rfl (by decide) ?_
              refine g_icmp_ge (pc1 := 64) (tgt := 117) d_Law_value_61 (by decide) rfl (fun c11 => ?_) (fun c11 => ?_)
              · replace h := itp h c11
                refine g_iload_n (pc1 := 118) d_Law_value_117 rfl 1 rfl ?_
                refine g_iconst (pc1 := 119) (v := 2) d_Law_value_118 rfl (by decide) ?_
                refine g_icmp_lt (pc1 := 122) (tgt := 131) d_Law_value_119 (by decide) rfl (fun c12 => ?_) (fun c12 => ?_)
                · replace h := itp h c12
                  refine g_iconst (pc1 := 132) (v := 0) d_Law_value_131 rfl (by decide) ?_
                  refine g_ireturn (Or.inl rfl) d_Law_value_132 rfl ?_
                  cases h; exact hQ
                · replace h := itn h c12
                  refine g_iload_n (pc1 := 123) d_Law_value_122 rfl 1 rfl ?_
                  refine g_aload_n (pc1 := 124) d_Law_value_123 rfl 0 rfl ?_
                  refine g_getr (pc1 := 127) d_Law_value_124 rfl ⟨_, fo_Law_18⟩ (shLw_0 hWl0) (ltLw_0 hWl0) (rfLw_3 ld hWl0) ?_
                  refine g_alen (pc1 := 128) (v := 32) d_Law_value_127 rfl (shLw_3 hWl0) (by decide) (by decide) (ltLw_3 hWl0) (by decide) ?_
                  refine g_icmp_le (pc1 := 131) (tgt := 133) d_Law_value_128 (by decide) rfl (fun c13 => ?_) (fun c13 => ?_)
                  · replace h := itp h c13
                    refine g_aload_n (pc1 := 134) d_Law_value_133 rfl 0 rfl ?_
                    refine g_getr (pc1 := 137) d_Law_value_134 rfl ⟨_, fo_Law_18⟩ (shLw_0 hWl0) (ltLw_0 hWl0) (rfLw_3 ld hWl0) ?_
                    refine g_iload_n (pc1 := 138) d_Law_value_137 rfl 1 rfl ?_
                    refine g_iconst (pc1 := 139) (v := 2) d_Law_value_138 rfl (by decide) ?_
                    refine g_isub (pc1 := 140) d_Law_value_139 rfl ?_
                    obtain ⟨g14, h⟩ := gdn h
                    refine g_iald (pc1 := 141) d_Law_value_140 rfl (shLw_3 hWl0) (ltLw_3 hWl0) g14 ?_
                    refine Wp.lI h (fun x15 h => ?_)
                    refine g_istore (pc1 := 143) (lv' := [(0, .ref Wl0), (1, .int v1), (2, .int x9), (3, .int v3), (4, .int x8), (5, .int x15)]) d_Law_value_141 rfl (by decide) [1, 2, 3, 4, 5, 0] rfl ?_
                    refine g_aload_n (pc1 := 144) d_Law_value_143 rfl 0 rfl ?_
                    refine g_getr (pc1 := 147) d_Law_value_144 rfl ⟨_, fo_Law_18⟩ (shLw_0 hWl0) (ltLw_0 hWl0) (rfLw_3 ld hWl0) ?_
                    refine g_iload_n (pc1 := 148) d_Law_value_147 rfl 1 rfl ?_
                    refine g_iconst (pc1 := 149) (v := 1) d_Law_value_148 rfl (by decide) ?_
                    refine g_isub (pc1 := 150) d_Law_value_149 rfl ?_
                    obtain ⟨g16, h⟩ := gdn h
                    refine g_iald (pc1 := 151) d_Law_value_150 rfl (shLw_3 hWl0) (ltLw_3 hWl0) g16 ?_
                    refine Wp.lI h (fun x17 h => ?_)
                    refine g_istore (pc1 := 153) (lv' := [(0, .ref Wl0), (1, .int v1), (2, .int x9), (3, .int v3), (4, .int x8), (5, .int x15), (6, .int x17)]) d_Law_value_151 rfl (by decide) [1, 2, 3, 4, 5, 6, 0] rfl ?_
                    obtain ⟨x18, ex18, h⟩ := ltI h
                    refine g_iinc (pc1 := 156) (v := x18) (lv' := [(0, .ref Wl0), (1, .int x18), (2, .int x9), (3, .int v3), (4, .int x8), (5, .int x15), (6, .int x17)]) d_Law_value_153 rfl 1 rfl (by rw [ex18]; rfl) (by decide) [1, 0, 2, 3, 4, 5, 6] rfl ?_
                    refine g_iload (pc1 := 158) d_Law_value_156 rfl 4 rfl ?_
                    refine g_sipush (pc1 := 161) (v := 20060) d_Law_value_158 rfl (by decide) ?_
                    refine g_icmp_ne (pc1 := 164) (tgt := 189) d_Law_value_161 (by decide) rfl (fun c19 => ?_) (fun c19 => ?_)
                    · replace h := itn h c19
                      refine g_iload (pc1 := 191) d_Law_value_189 rfl 4 rfl ?_
                      refine g_sipush (pc1 := 194) (v := 20047) d_Law_value_191 rfl (by decide) ?_
                      refine g_icmp_ne (pc1 := 197) (tgt := 204) d_Law_value_194 (by decide) rfl (fun c20 => ?_) (fun c20 => ?_)
                      · replace h := itn h c20
                        exact j_Law_value_204 hld hWl0 hQ hK6 h
                      · replace h := itp h c20
                        refine g_iload (pc1 := 199) d_Law_value_197 rfl 6 rfl ?_
                        refine g_if_ne (pc1 := 202) (tgt := 204) d_Law_value_199 (by decide) rfl (fun c27 => ?_) (fun c27 => ?_)
                        · replace h := itn h c27
                          exact j_Law_value_204 hld hWl0 hQ hK6 h
                        · replace h := itp h c27
                          refine g_iconst (pc1 := 203) (v := 0) d_Law_value_202 rfl (by decide) ?_
                          refine g_ireturn (Or.inl rfl) d_Law_value_203 rfl ?_
                          cases h; exact hQ
                    · replace h := itp h c19
                      refine g_iload (pc1 := 166) d_Law_value_164 rfl 5 rfl ?_
                      refine g_iload (pc1 := 168) d_Law_value_166 rfl 6 rfl ?_
                      refine g_icmp_ge (pc1 := 171) (tgt := 177) d_Law_value_168 (by decide) rfl (fun c28 => ?_) (fun c28 => ?_)
                      · replace h := itp h c28
                        refine g_aload_n (pc1 := 178) d_Law_value_177 rfl 0 rfl ?_
                        refine g_getr (pc1 := 181) d_Law_value_178 rfl ⟨_, fo_Law_11⟩ (shLw_0 hWl0) (ltLw_0 hWl0) (rfLw_0 ld hWl0) ?_
                        refine g_iload_n (pc1 := 182) d_Law_value_181 rfl 2 rfl ?_
                        refine g_callS0 (pc1 := 185) (As := [.ref (Wl0 + 1), .int x9]) (rest := []) d_Law_value_182 rfl mo_Law_33 ms_Main_at (by decide) rfl rfl (Nat.le_of_ble_eq_true rfl) ?_
                        obtain ⟨r30, hq29, h⟩ := bnd h
                        refine f_Main_at hld (shLw_1 hWl0) (ltLw_1 hWl0) (by decide) hq29 ?_
                        dsimp only [psh]
                        refine Wp.loc (lv' := [(0, .ref Wl0), (1, .int x18), (3, .int v3)]) [0, 1, 3] rfl ?_
                        exact j_Law_value_185 hld hWl0 hQ hK6 h
                      · replace h := itn h c28
                        refine g_iload_n (pc1 := 172) d_Law_value_171 rfl 2 rfl ?_
                        refine g_iconst (pc1 := 173) (v := 1) d_Law_value_172 rfl (by decide) ?_
                        refine g_iadd (pc1 := 174) d_Law_value_173 rfl ?_
                        refine g_goto (tgt := 185) d_Law_value_174 (by decide) ?_
                        refine Wp.loc (lv' := [(0, .ref Wl0), (1, .int x18), (3, .int v3)]) [0, 1, 3] rfl ?_
                        exact j_Law_value_185 hld hWl0 hQ hK6 h
                  · replace h := itn h c13
                    refine g_iconst (pc1 := 132) (v := 0) d_Law_value_131 rfl (by decide) ?_
                    refine g_ireturn (Or.inl rfl) d_Law_value_132 rfl ?_
                    cases h; exact hQ
              · replace h := itn h c11
                refine g_iload_n (pc1 := 65) d_Law_value_64 rfl 1 rfl ?_
                refine g_if_lt (pc1 := 68) (tgt := 77) d_Law_value_65 (by decide) rfl (fun c31 => ?_) (fun c31 => ?_)
                · replace h := itp h c31
                  refine g_iconst (pc1 := 78) (v := 0) d_Law_value_77 rfl (by decide) ?_
                  refine g_ireturn (Or.inl rfl) d_Law_value_78 rfl ?_
                  cases h; exact hQ
                · replace h := itn h c31
                  refine g_iload_n (pc1 := 69) d_Law_value_68 rfl 1 rfl ?_
                  refine g_aload_n (pc1 := 70) d_Law_value_69 rfl 0 rfl ?_
                  refine g_getr (pc1 := 73) d_Law_value_70 rfl ⟨_, fo_Law_18⟩ (shLw_0 hWl0) (ltLw_0 hWl0) (rfLw_3 ld hWl0) ?_
                  refine g_alen (pc1 := 74) (v := 32) d_Law_value_73 rfl (shLw_3 hWl0) (by decide) (by decide) (ltLw_3 hWl0) (by decide) ?_
                  refine g_icmp_lt (pc1 := 77) (tgt := 79) d_Law_value_74 (by decide) rfl (fun c32 => ?_) (fun c32 => ?_)
                  · replace h := itp h c32
                    refine g_aload_n (pc1 := 80) d_Law_value_79 rfl 0 rfl ?_
                    refine g_getr (pc1 := 83) d_Law_value_80 rfl ⟨_, fo_Law_18⟩ (shLw_0 hWl0) (ltLw_0 hWl0) (rfLw_3 ld hWl0) ?_
                    refine g_iload_n (pc1 := 84) d_Law_value_83 rfl 1 rfl ?_
                    refine g_iload (pc1 := 86) d_Law_value_84 rfl 4 rfl ?_
                    refine g_sipush (pc1 := 89) (v := 10000) d_Law_value_86 rfl (by decide) ?_
                    refine g_icmp_ge (pc1 := 92) (tgt := 97) d_Law_value_89 (by decide) rfl (fun c33 => ?_) (fun c33 => ?_)
                    · replace h := itp h c33
                      refine g_aload_n (pc1 := 98) d_Law_value_97 rfl 0 rfl ?_
                      refine g_getr (pc1 := 101) d_Law_value_98 rfl ⟨_, fo_Law_15⟩ (shLw_0 hWl0) (ltLw_0 hWl0) (rfLw_2 ld hWl0) ?_
                      refine g_iload (pc1 := 103) d_Law_value_101 rfl 4 rfl ?_
                      refine g_sipush (pc1 := 106) (v := 10000) d_Law_value_103 rfl (by decide) ?_
                      refine g_isub (pc1 := 107) d_Law_value_106 rfl ?_
                      refine g_callS0 (pc1 := 110) (As := [.ref (Wl0 + 2), .int (x8 - 10000)]) (rest := [.int v1, .ref (Wl0 + 3)]) d_Law_value_107 rfl mo_Law_33 ms_Main_at (by decide) rfl rfl (Nat.le_of_ble_eq_true rfl) ?_
                      obtain ⟨r35, hq34, h⟩ := bnd h
                      refine f_Main_at hld (shLw_2 hWl0) (ltLw_2 hWl0) (by decide) hq34 ?_
                      dsimp only [psh]
                      refine Wp.loc (lv' := [(0, .ref Wl0), (1, .int v1), (2, .int x9), (3, .int v3)]) [0, 1, 2, 3] rfl ?_
                      exact j_Law_value_110 hld hWl0 hQ hK6 h
                    · replace h := itn h c33
                      refine g_iload (pc1 := 94) d_Law_value_92 rfl 4 rfl ?_
                      refine g_goto (tgt := 110) d_Law_value_94 (by decide) ?_
                      refine Wp.loc (lv' := [(0, .ref Wl0), (1, .int v1), (2, .int x9), (3, .int v3)]) [0, 1, 2, 3] rfl ?_
                      exact j_Law_value_110 hld hWl0 hQ hK6 h
                  · replace h := itn h c32
                    refine g_iconst (pc1 := 78) (v := 0) d_Law_value_77 rfl (by decide) ?_
                    refine g_ireturn (Or.inl rfl) d_Law_value_78 rfl ?_
                    cases h; exact hQ
            · replace h := itp h c10
              refine Wp.loc (lv' := [(0, .ref Wl0)]) [0] rfl ?_
              exact j_Law_value_53 hld hWl0 hQ  h
def F_Law_value (Wl0 : Nat) (M : gM) : Option (Int32 × gM) :=
  H_Law_value_6 Wl0 FU 0 0 0 M
set_option maxHeartbeats 4000000 in
set_option maxRecDepth 20000 in
theorem f_Law_value {l : Launch} {ld : Nat} {M : gM} {L : gL} {Q : Option Value → gM → gL → gR → Prop} (hld : isLa ld) {Wl0 : Nat} (hWl0 : isLw Wl0) {q : Int32 × gM} (h : F_Law_value Wl0 M = some q) (hQ : Q (some (.int q.1)) q.2 L (rf ld)) : Tm l y_Law_value (0, 0, 447) 447 [.ref Wl0] M L (rf ld) Q := by
  refine Tm.of (by decide) (Nat.le_of_ble_eq_true rfl) ?_
  show Wp l y_Law_value (0, 0, 447) 447 0 0 0 [(0, .ref Wl0)] [] M L (rf ld) Q
  unfold F_Law_value at h
  refine g_iconst (pc1 := 1) (v := 0) d_Law_value_0 rfl (by decide) ?_
  refine g_istore_n (pc1 := 2) (lv' := [(0, .ref Wl0), (1, .int 0)]) d_Law_value_1 rfl rfl (by decide) [1, 0] rfl ?_
  refine g_iconst (pc1 := 3) (v := 0) d_Law_value_2 rfl (by decide) ?_
  refine g_istore_n (pc1 := 4) (lv' := [(0, .ref Wl0), (1, .int 0), (2, .int 0)]) d_Law_value_3 rfl rfl (by decide) [1, 2, 0] rfl ?_
  refine g_iconst (pc1 := 5) (v := 0) d_Law_value_4 rfl (by decide) ?_
  refine g_istore_n (pc1 := 6) (lv' := [(0, .ref Wl0), (1, .int 0), (2, .int 0), (3, .int 0)]) d_Law_value_5 rfl rfl (by decide) [1, 2, 3, 0] rfl ?_
  exact h_Law_value_6 hld hWl0 hQ  _ 0 0 0 M h

def F_MenuSearch_isFree (p1 : Int32) (p2 : Int32) (p3 : Int32) (M : gM) : Option (Int32) :=
  (if 0 ≤ p3 then bI (F_MenuSearch_indexOf p1 p2 p3) (fun r3 => (if r3 < 0 then some 0 else (if 80 ≤ r3 then some 0 else (if (r3 : Int32) < 0 ∨ 80 ≤ (r3 : Int32).toNatClampNeg then none else (if (M 398 (r3 : Int32).toNatClampNeg) = 0 then some 0 else some 1))))) else (if p1 < 0 then some 0 else (if 4 ≤ p1 then some 0 else (if (p1 : Int32) < 0 ∨ 4 ≤ (p1 : Int32).toNatClampNeg then none else (if (M 397 (p1 : Int32).toNatClampNeg) = 0 then some 0 else some 1)))))
set_option maxHeartbeats 4000000 in
set_option maxRecDepth 20000 in
theorem f_MenuSearch_isFree {l : Launch} {ld : Nat} {M : gM} {L : gL} {Q : Option Value → gM → gL → gR → Prop} (hld : isLa ld) {p1 : Int32} {p2 : Int32} {p3 : Int32}  {q : Int32} (h : F_MenuSearch_isFree p1 p2 p3 M = some q) (hQ : Q (some (.int q)) M L (rf ld)) : Tm l y_MenuSearch_isFree (0, 0, 447) 447 [.ref 396, .int p1, .int p2, .int p3] M L (rf ld) Q := by
  refine Tm.of (by decide) (Nat.le_of_ble_eq_true rfl) ?_
  show Wp l y_MenuSearch_isFree (0, 0, 447) 447 0 0 0 [(0, .ref 396), (1, .int p1), (2, .int p2), (3, .int p3)] [] M L (rf ld) Q
  unfold F_MenuSearch_isFree at h
  refine g_iload_n (pc1 := 1) d_MenuSearch_isFree_0 rfl 3 rfl ?_
  refine g_if_ge (pc1 := 4) (tgt := 32) d_MenuSearch_isFree_1 (by decide) rfl (fun c1 => ?_) (fun c1 => ?_)
  · replace h := itp h c1
    refine g_iload_n (pc1 := 33) d_MenuSearch_isFree_32 rfl 1 rfl ?_
    refine g_iload_n (pc1 := 34) d_MenuSearch_isFree_33 rfl 2 rfl ?_
    refine g_iload_n (pc1 := 35) d_MenuSearch_isFree_34 rfl 3 rfl ?_
    refine g_callS0 (pc1 := 38) (As := [.int p1, .int p2, .int p3]) (rest := []) d_MenuSearch_isFree_35 rfl mo_MenuSearch_71 ms_MenuSearch_indexOf (by decide) rfl rfl (Nat.le_of_ble_eq_true rfl) ?_
    obtain ⟨r3, hq2, h⟩ := bnd h
    refine f_MenuSearch_indexOf hld  hq2 ?_
    dsimp only [psh]
    refine g_istore (pc1 := 40) (lv' := [(0, .ref 396), (1, .int p1), (2, .int p2), (3, .int p3), (4, .int r3)]) d_MenuSearch_isFree_38 rfl (by decide) [1, 2, 3, 4, 0] rfl ?_
    refine g_iload (pc1 := 42) d_MenuSearch_isFree_40 rfl 4 rfl ?_
    refine g_if_lt (pc1 := 45) (tgt := 69) d_MenuSearch_isFree_42 (by decide) rfl (fun c4 => ?_) (fun c4 => ?_)
    · replace h := itp h c4
      refine g_iconst (pc1 := 70) (v := 0) d_MenuSearch_isFree_69 rfl (by decide) ?_
      refine g_ireturn (Or.inr ⟨rfl, rfl⟩) d_MenuSearch_isFree_70 rfl ?_
      cases h; exact hQ
    · replace h := itn h c4
      refine g_iload (pc1 := 47) d_MenuSearch_isFree_45 rfl 4 rfl ?_
      refine g_aload_n (pc1 := 48) d_MenuSearch_isFree_47 rfl 0 rfl ?_
      refine g_getr (pc1 := 51) d_MenuSearch_isFree_48 rfl ⟨_, fo_MenuSearch_15⟩ sh_396 (by decide) (rf_396_1 ld) ?_
      refine g_alen (pc1 := 52) (v := 80) d_MenuSearch_isFree_51 rfl sh_398 (by decide) (by decide) (by decide) (by decide) ?_
      refine g_icmp_ge (pc1 := 55) (tgt := 69) d_MenuSearch_isFree_52 (by decide) rfl (fun c5 => ?_) (fun c5 => ?_)
      · replace h := itp h c5
        refine g_iconst (pc1 := 70) (v := 0) d_MenuSearch_isFree_69 rfl (by decide) ?_
        refine g_ireturn (Or.inr ⟨rfl, rfl⟩) d_MenuSearch_isFree_70 rfl ?_
        cases h; exact hQ
      · replace h := itn h c5
        refine g_aload_n (pc1 := 56) d_MenuSearch_isFree_55 rfl 0 rfl ?_
        refine g_getr (pc1 := 59) d_MenuSearch_isFree_56 rfl ⟨_, fo_MenuSearch_15⟩ sh_396 (by decide) (rf_396_1 ld) ?_
        refine g_iload (pc1 := 61) d_MenuSearch_isFree_59 rfl 4 rfl ?_
        obtain ⟨g6, h⟩ := gdn h
        refine g_zald (pc1 := 62) d_MenuSearch_isFree_61 rfl sh_398 (by decide) g6 ?_
        refine g_if_eq (pc1 := 65) (tgt := 69) d_MenuSearch_isFree_62 (by decide) rfl (fun c7 => ?_) (fun c7 => ?_)
        · replace h := itp h c7
          refine g_iconst (pc1 := 70) (v := 0) d_MenuSearch_isFree_69 rfl (by decide) ?_
          refine g_ireturn (Or.inr ⟨rfl, rfl⟩) d_MenuSearch_isFree_70 rfl ?_
          cases h; exact hQ
        · replace h := itn h c7
          refine g_iconst (pc1 := 66) (v := 1) d_MenuSearch_isFree_65 rfl (by decide) ?_
          refine g_goto (tgt := 70) d_MenuSearch_isFree_66 (by decide) ?_
          refine g_ireturn (Or.inr ⟨rfl, rfl⟩) d_MenuSearch_isFree_70 rfl ?_
          cases h; exact hQ
  · replace h := itn h c1
    refine g_iload_n (pc1 := 5) d_MenuSearch_isFree_4 rfl 1 rfl ?_
    refine g_if_lt (pc1 := 8) (tgt := 30) d_MenuSearch_isFree_5 (by decide) rfl (fun c8 => ?_) (fun c8 => ?_)
    · replace h := itp h c8
      refine g_iconst (pc1 := 31) (v := 0) d_MenuSearch_isFree_30 rfl (by decide) ?_
      refine g_ireturn (Or.inr ⟨rfl, rfl⟩) d_MenuSearch_isFree_31 rfl ?_
      cases h; exact hQ
    · replace h := itn h c8
      refine g_iload_n (pc1 := 9) d_MenuSearch_isFree_8 rfl 1 rfl ?_
      refine g_aload_n (pc1 := 10) d_MenuSearch_isFree_9 rfl 0 rfl ?_
      refine g_getr (pc1 := 13) d_MenuSearch_isFree_10 rfl ⟨_, fo_MenuSearch_9⟩ sh_396 (by decide) (rf_396_0 ld) ?_
      refine g_alen (pc1 := 14) (v := 4) d_MenuSearch_isFree_13 rfl sh_397 (by decide) (by decide) (by decide) (by decide) ?_
      refine g_icmp_ge (pc1 := 17) (tgt := 30) d_MenuSearch_isFree_14 (by decide) rfl (fun c9 => ?_) (fun c9 => ?_)
      · replace h := itp h c9
        refine g_iconst (pc1 := 31) (v := 0) d_MenuSearch_isFree_30 rfl (by decide) ?_
        refine g_ireturn (Or.inr ⟨rfl, rfl⟩) d_MenuSearch_isFree_31 rfl ?_
        cases h; exact hQ
      · replace h := itn h c9
        refine g_aload_n (pc1 := 18) d_MenuSearch_isFree_17 rfl 0 rfl ?_
        refine g_getr (pc1 := 21) d_MenuSearch_isFree_18 rfl ⟨_, fo_MenuSearch_9⟩ sh_396 (by decide) (rf_396_0 ld) ?_
        refine g_iload_n (pc1 := 22) d_MenuSearch_isFree_21 rfl 1 rfl ?_
        obtain ⟨g10, h⟩ := gdn h
        refine g_zald (pc1 := 23) d_MenuSearch_isFree_22 rfl sh_397 (by decide) g10 ?_
        refine g_if_eq (pc1 := 26) (tgt := 30) d_MenuSearch_isFree_23 (by decide) rfl (fun c11 => ?_) (fun c11 => ?_)
        · replace h := itp h c11
          refine g_iconst (pc1 := 31) (v := 0) d_MenuSearch_isFree_30 rfl (by decide) ?_
          refine g_ireturn (Or.inr ⟨rfl, rfl⟩) d_MenuSearch_isFree_31 rfl ?_
          cases h; exact hQ
        · replace h := itn h c11
          refine g_iconst (pc1 := 27) (v := 1) d_MenuSearch_isFree_26 rfl (by decide) ?_
          refine g_goto (tgt := 31) d_MenuSearch_isFree_27 (by decide) ?_
          refine g_ireturn (Or.inr ⟨rfl, rfl⟩) d_MenuSearch_isFree_31 rfl ?_
          cases h; exact hQ

def J_MenuSearch_step_24 (v3 : Int32) (v4 : Int32) (M : gM) : Option (Int32 × gM) :=
  bI (F_Main_put 399 4 v3 (v4 + 1) M) (fun M10 => some (1, M10))
set_option maxHeartbeats 4000000 in
set_option maxRecDepth 20000 in
theorem j_MenuSearch_step_24 {l : Launch} {ld : Nat} {Q : Option Value → gM → gL → gR → Prop} (hld : isLa ld)   {q : Int32 × gM} {M : gM} {L : gL} (hQ : Q (some (.int q.1)) q.2 L (rf ld))  {v3 : Int32} {v4 : Int32}  (h : J_MenuSearch_step_24 v3 v4 M = some q) : Wp l y_MenuSearch_step (0, 0, 447) 447 0 0 24 [(0, .ref 396), (3, .int v3), (4, .int v4)] [] M L (rf ld) Q := by
  unfold J_MenuSearch_step_24 at h
  refine g_aload_n (pc1 := 25) d_MenuSearch_step_24 rfl 0 rfl ?_
  refine g_getr (pc1 := 28) d_MenuSearch_step_25 rfl ⟨_, fo_MenuSearch_18⟩ sh_396 (by decide) (rf_396_2 ld) ?_
  refine g_iload_n (pc1 := 29) d_MenuSearch_step_28 rfl 1 rfl ?_
  refine g_iload (pc1 := 31) d_MenuSearch_step_29 rfl 2 rfl ?_
  refine g_iconst (pc1 := 32) (v := 1) d_MenuSearch_step_31 rfl (by decide) ?_
  refine g_iadd (pc1 := 33) d_MenuSearch_step_32 rfl ?_
  refine g_callS0 (pc1 := 36) (As := [.ref 399, .int v3, .int (v4 + 1)]) (rest := []) d_MenuSearch_step_33 rfl mo_MenuSearch_83 ms_Main_put (by decide) rfl rfl (Nat.le_of_ble_eq_true rfl) ?_
  obtain ⟨M10, hq9, h⟩ := bnd h
  refine f_Main_put hld sh_399 (by decide) (by decide) hq9 ?_
  dsimp only [psh]
  refine g_iconst (pc1 := 37) (v := 1) d_MenuSearch_step_36 rfl (by decide) ?_
  refine g_ireturn (Or.inr ⟨rfl, rfl⟩) d_MenuSearch_step_37 rfl ?_
  cases h; exact hQ
def B_MenuSearch_step_4 (v2 : Int32) (K4 : Int32 → gM → Option (Int32 × gM)) : Int32 → gM → Option (Int32 × gM) := fun v3 M =>
  (if v3 < 0 then some (0, M) else bI (F_Main_at 399 4 v3 M) (fun r4 => (if v2 ≤ r4 then bI (F_Main_put 399 4 v3 0 M) (fun M7 => nmI (v3 + (-1)) (fun x8 => K4 x8 M7)) else J_MenuSearch_step_24 v3 r4 M)))
def H_MenuSearch_step_4 (v2 : Int32) : Nat → Int32 → gM → Option (Int32 × gM) := lpK (B_MenuSearch_step_4 v2) (fun _ _ => none)
set_option maxHeartbeats 4000000 in
set_option maxRecDepth 20000 in
theorem h_MenuSearch_step_4 {l : Launch} {ld : Nat} {Q : Option Value → gM → gL → gR → Prop} (hld : isLa ld)   {q : Int32 × gM} {L : gL} (hQ : Q (some (.int q.1)) q.2 L (rf ld))  {v2 : Int32}  : ∀ (f : Nat) (v3 : Int32) (M : gM), H_MenuSearch_step_4 v2 f v3 M = some q → Wp l y_MenuSearch_step (0, 0, 447) 447 0 0 4 [(0, .ref 396), (2, .int v2), (3, .int v3)] [] M L (rf ld) Q := by
  intro f
  induction f with
  | zero => intro v3 M h; cases h
  | succ f hK4 =>
    intro v3 M h
    replace h : B_MenuSearch_step_4 v2 (H_MenuSearch_step_4 v2 f) v3 M = some q := h
    unfold B_MenuSearch_step_4 at h
    refine g_iload_n (pc1 := 5) d_MenuSearch_step_4 rfl 2 rfl ?_
    refine g_if_lt (pc1 := 8) (tgt := 53) d_MenuSearch_step_5 (by decide) rfl (fun c2 => ?_) (fun c2 => ?_)
    · replace h := itp h c2
      refine g_iconst (pc1 := 54) (v := 0) d_MenuSearch_step_53 rfl (by decide) ?_
      refine g_ireturn (Or.inr ⟨rfl, rfl⟩) d_MenuSearch_step_54 rfl ?_
      cases h; exact hQ
    · replace h := itn h c2
      refine g_aload_n (pc1 := 9) d_MenuSearch_step_8 rfl 0 rfl ?_
      refine g_getr (pc1 := 12) d_MenuSearch_step_9 rfl ⟨_, fo_MenuSearch_18⟩ sh_396 (by decide) (rf_396_2 ld) ?_
      refine g_iload_n (pc1 := 13) d_MenuSearch_step_12 rfl 2 rfl ?_
      refine g_callS0 (pc1 := 16) (As := [.ref 399, .int v3]) (rest := []) d_MenuSearch_step_13 rfl mo_MenuSearch_75 ms_Main_at (by decide) rfl rfl (Nat.le_of_ble_eq_true rfl) ?_
      obtain ⟨r4, hq3, h⟩ := bnd h
      refine f_Main_at hld sh_399 (by decide) (by decide) hq3 ?_
      dsimp only [psh]
      refine g_istore (pc1 := 18) (lv' := [(0, .ref 396), (2, .int v2), (3, .int v3), (4, .int r4)]) d_MenuSearch_step_16 rfl (by decide) [1, 2, 3, 0] rfl ?_
      refine g_iload (pc1 := 20) d_MenuSearch_step_18 rfl 3 rfl ?_
      refine g_iload_n (pc1 := 21) d_MenuSearch_step_20 rfl 1 rfl ?_
      refine g_icmp_ge (pc1 := 24) (tgt := 38) d_MenuSearch_step_21 (by decide) rfl (fun c5 => ?_) (fun c5 => ?_)
      · replace h := itp h c5
        refine g_aload_n (pc1 := 39) d_MenuSearch_step_38 rfl 0 rfl ?_
        refine g_getr (pc1 := 42) d_MenuSearch_step_39 rfl ⟨_, fo_MenuSearch_18⟩ sh_396 (by decide) (rf_396_2 ld) ?_
        refine g_iload_n (pc1 := 43) d_MenuSearch_step_42 rfl 2 rfl ?_
        refine g_iconst (pc1 := 44) (v := 0) d_MenuSearch_step_43 rfl (by decide) ?_
        refine g_callS0 (pc1 := 47) (As := [.ref 399, .int v3, .int 0]) (rest := []) d_MenuSearch_step_44 rfl mo_MenuSearch_83 ms_Main_put (by decide) rfl rfl (Nat.le_of_ble_eq_true rfl) ?_
        obtain ⟨M7, hq6, h⟩ := bnd h
        refine f_Main_put hld sh_399 (by decide) (by decide) hq6 ?_
        dsimp only [psh]
        obtain ⟨x8, ex8, h⟩ := ltI h
        refine g_iinc (pc1 := 50) (v := x8) (lv' := [(0, .ref 396), (2, .int v2), (3, .int x8), (4, .int r4)]) d_MenuSearch_step_47 rfl 2 rfl (by rw [ex8]; rfl) (by decide) [1, 2, 0, 3] rfl ?_
        refine g_goto (tgt := 4) d_MenuSearch_step_50 (by decide) ?_
        refine Wp.loc (lv' := [(0, .ref 396), (2, .int v2), (3, .int x8)]) [0, 1, 2] rfl ?_
        exact hK4 x8 M7 h
      · replace h := itn h c5
        refine Wp.loc (lv' := [(0, .ref 396), (3, .int v3), (4, .int r4)]) [0, 2, 3] rfl ?_
        exact j_MenuSearch_step_24 hld  hQ  h
def F_MenuSearch_step (p1 : Int32) (p2 : Int32) (M : gM) : Option (Int32 × gM) :=
  nmI (p1 - 1) (fun x1 => H_MenuSearch_step_4 p2 FU x1 M)
set_option maxHeartbeats 4000000 in
set_option maxRecDepth 20000 in
theorem f_MenuSearch_step {l : Launch} {ld : Nat} {M : gM} {L : gL} {Q : Option Value → gM → gL → gR → Prop} (hld : isLa ld) {p1 : Int32} {p2 : Int32}  {q : Int32 × gM} (h : F_MenuSearch_step p1 p2 M = some q) (hQ : Q (some (.int q.1)) q.2 L (rf ld)) : Tm l y_MenuSearch_step (0, 0, 447) 447 [.ref 396, .int p1, .int p2] M L (rf ld) Q := by
  refine Tm.of (by decide) (Nat.le_of_ble_eq_true rfl) ?_
  show Wp l y_MenuSearch_step (0, 0, 447) 447 0 0 0 [(0, .ref 396), (1, .int p1), (2, .int p2)] [] M L (rf ld) Q
  unfold F_MenuSearch_step at h
  refine g_iload_n (pc1 := 1) d_MenuSearch_step_0 rfl 1 rfl ?_
  refine g_iconst (pc1 := 2) (v := 1) d_MenuSearch_step_1 rfl (by decide) ?_
  refine g_isub (pc1 := 3) d_MenuSearch_step_2 rfl ?_
  refine Wp.lI h (fun x1 h => ?_)
  refine g_istore_n (pc1 := 4) (lv' := [(0, .ref 396), (1, .int p1), (2, .int p2), (3, .int x1)]) d_MenuSearch_step_3 rfl rfl (by decide) [1, 2, 3, 0] rfl ?_
  refine Wp.loc (lv' := [(0, .ref 396), (2, .int p2), (3, .int x1)]) [0, 2, 3] rfl ?_
  exact h_MenuSearch_step_4 hld  hQ  _ x1 M h

def B_PotSearch_fillFrom_6 (X1 : Nat) (K6 : Int32 → Int32 → gM → Option (gM)) : Int32 → Int32 → gM → Option (gM) := fun v4 v5 M =>
  (if 6 ≤ v5 then some M else bI (F_Main_at (X1 + 2) 6 v5 M) (fun r3 => nmI (if r3 < v4 then r3 else v4) (fun x4 => bI (F_Main_put 393 6 v5 x4 M) (fun M6 => nmI (v4 - x4) (fun x7 => nmI (v5 + 1) (fun x8 => K6 x7 x8 M6))))))
def H_PotSearch_fillFrom_6 (X1 : Nat) : Nat → Int32 → Int32 → gM → Option (gM) := lpK (B_PotSearch_fillFrom_6 X1) (fun _ _ _ => none)
set_option maxHeartbeats 4000000 in
set_option maxRecDepth 20000 in
theorem h_PotSearch_fillFrom_6 {l : Launch} {ld : Nat} {Q : Option Value → gM → gL → gR → Prop} (hld : isLa ld) {X1 : Nat} (hX1 : isSt X1) {q : gM} {L : gL} (hQ : Q none q L (rf ld))    : ∀ (f : Nat) (v4 : Int32) (v5 : Int32) (M : gM), H_PotSearch_fillFrom_6 X1 f v4 v5 M = some q → Wp l y_PotSearch_fillFrom (0, 0, 447) 447 0 0 6 [(0, .ref 391), (1, .ref X1), (4, .int v4), (5, .int v5)] [] M L (rf ld) Q := by
  intro f
  induction f with
  | zero => intro v4 v5 M h; cases h
  | succ f hK6 =>
    intro v4 v5 M h
    replace h : B_PotSearch_fillFrom_6 X1 (H_PotSearch_fillFrom_6 X1 f) v4 v5 M = some q := h
    unfold B_PotSearch_fillFrom_6 at h
    refine g_iload (pc1 := 8) d_PotSearch_fillFrom_6 rfl 3 rfl ?_
    refine g_bipush (pc1 := 10) (v := 6) d_PotSearch_fillFrom_8 rfl (by decide) ?_
    refine g_icmp_ge (pc1 := 13) (tgt := 53) d_PotSearch_fillFrom_10 (by decide) rfl (fun c1 => ?_) (fun c1 => ?_)
    · replace h := itp h c1
      refine g_return rfl d_PotSearch_fillFrom_53 rfl ?_
      cases h; exact hQ
    · replace h := itn h c1
      refine g_iload (pc1 := 15) d_PotSearch_fillFrom_13 rfl 2 rfl ?_
      refine g_aload_n (pc1 := 16) d_PotSearch_fillFrom_15 rfl 1 rfl ?_
      refine g_getr (pc1 := 19) d_PotSearch_fillFrom_16 rfl ⟨_, fo_PotSearch_72⟩ (shSt_0 hX1) (ltSt_0 hX1) (rfSt_5 ld hX1) ?_
      refine g_iload (pc1 := 21) d_PotSearch_fillFrom_19 rfl 3 rfl ?_
      refine g_callS0 (pc1 := 24) (As := [.ref (X1 + 2), .int v5]) (rest := [.int v4]) d_PotSearch_fillFrom_21 rfl mo_PotSearch_75 ms_Main_at (by decide) rfl rfl (Nat.le_of_ble_eq_true rfl) ?_
      obtain ⟨r3, hq2, h⟩ := bnd h
      refine f_Main_at hld (shSt_2 hX1) (ltSt_2 hX1) (by decide) hq2 ?_
      dsimp only [psh]
      refine g_mmin (pc1 := 27) d_PotSearch_fillFrom_24 rfl mm_PotSearch_79 (by decide) ⟨Nat.le_refl 0, Nat.le_refl 0⟩ (Nat.le_of_ble_eq_true rfl) ?_
      refine Wp.lI h (fun x4 h => ?_)
      refine g_istore (pc1 := 29) (lv' := [(0, .ref 391), (1, .ref X1), (4, .int v4), (5, .int v5), (6, .int x4)]) d_PotSearch_fillFrom_27 rfl (by decide) [1, 2, 3, 4, 0] rfl ?_
      refine g_aload_n (pc1 := 30) d_PotSearch_fillFrom_29 rfl 0 rfl ?_
      refine g_getr (pc1 := 33) d_PotSearch_fillFrom_30 rfl ⟨_, fo_PotSearch_15⟩ sh_391 (by decide) (rf_391_1 ld) ?_
      refine g_iload (pc1 := 35) d_PotSearch_fillFrom_33 rfl 3 rfl ?_
      refine g_iload (pc1 := 37) d_PotSearch_fillFrom_35 rfl 4 rfl ?_
      refine g_callS0 (pc1 := 40) (As := [.ref 393, .int v5, .int x4]) (rest := []) d_PotSearch_fillFrom_37 rfl mo_PotSearch_24 ms_Main_put (by decide) rfl rfl (Nat.le_of_ble_eq_true rfl) ?_
      obtain ⟨M6, hq5, h⟩ := bnd h
      refine f_Main_put hld sh_393 (by decide) (by decide) hq5 ?_
      dsimp only [psh]
      refine g_iload (pc1 := 42) d_PotSearch_fillFrom_40 rfl 2 rfl ?_
      refine g_iload (pc1 := 44) d_PotSearch_fillFrom_42 rfl 4 rfl ?_
      refine g_isub (pc1 := 45) d_PotSearch_fillFrom_44 rfl ?_
      refine Wp.lI h (fun x7 h => ?_)
      refine g_istore (pc1 := 47) (lv' := [(0, .ref 391), (1, .ref X1), (4, .int x7), (5, .int v5), (6, .int x4)]) d_PotSearch_fillFrom_45 rfl (by decide) [1, 2, 0, 3, 4] rfl ?_
      obtain ⟨x8, ex8, h⟩ := ltI h
      refine g_iinc (pc1 := 50) (v := x8) (lv' := [(0, .ref 391), (1, .ref X1), (4, .int x7), (5, .int x8), (6, .int x4)]) d_PotSearch_fillFrom_47 rfl 3 rfl (by rw [ex8]; rfl) (by decide) [1, 2, 3, 0, 4] rfl ?_
      refine g_goto (tgt := 6) d_PotSearch_fillFrom_50 (by decide) ?_
      refine Wp.loc (lv' := [(0, .ref 391), (1, .ref X1), (4, .int x7), (5, .int x8)]) [0, 1, 2, 3] rfl ?_
      exact hK6 x7 x8 M6 h
def F_PotSearch_fillFrom (X1 : Nat) (p2 : Int32) (p3 : Int32) (M : gM) : Option (gM) :=
  H_PotSearch_fillFrom_6 X1 FU p3 p2 M
set_option maxHeartbeats 4000000 in
set_option maxRecDepth 20000 in
theorem f_PotSearch_fillFrom {l : Launch} {ld : Nat} {M : gM} {L : gL} {Q : Option Value → gM → gL → gR → Prop} (hld : isLa ld) {X1 : Nat} {p2 : Int32} {p3 : Int32} (hX1 : isSt X1) {q : gM} (h : F_PotSearch_fillFrom X1 p2 p3 M = some q) (hQ : Q none q L (rf ld)) : Tm l y_PotSearch_fillFrom (0, 0, 447) 447 [.ref 391, .ref X1, .int p2, .int p3] M L (rf ld) Q := by
  refine Tm.of (by decide) (Nat.le_of_ble_eq_true rfl) ?_
  show Wp l y_PotSearch_fillFrom (0, 0, 447) 447 0 0 0 [(0, .ref 391), (1, .ref X1), (2, .int p2), (3, .int p3)] [] M L (rf ld) Q
  unfold F_PotSearch_fillFrom at h
  refine g_iload_n (pc1 := 1) d_PotSearch_fillFrom_0 rfl 3 rfl ?_
  refine g_istore (pc1 := 3) (lv' := [(0, .ref 391), (1, .ref X1), (2, .int p2), (3, .int p3), (4, .int p3)]) d_PotSearch_fillFrom_1 rfl (by decide) [1, 2, 3, 4, 0] rfl ?_
  refine g_iload_n (pc1 := 4) d_PotSearch_fillFrom_3 rfl 2 rfl ?_
  refine g_istore (pc1 := 6) (lv' := [(0, .ref 391), (1, .ref X1), (2, .int p2), (3, .int p3), (4, .int p3), (5, .int p2)]) d_PotSearch_fillFrom_4 rfl (by decide) [1, 2, 3, 4, 5, 0] rfl ?_
  refine Wp.loc (lv' := [(0, .ref 391), (1, .ref X1), (4, .int p3), (5, .int p2)]) [0, 1, 4, 5] rfl ?_
  exact h_PotSearch_fillFrom_6 hld hX1 hQ  _ p3 p2 M h

def F_Reader_holdSign (p1 : Int32) (M : gM) : Option (gM) :=
  bI (F_Main_put 11 32 (M 3 10) p1 M) (fun M2 => nmM (uM M2 3 10 ((M2 3 10) + 1)) (fun M3 => some M3))
set_option maxHeartbeats 4000000 in
set_option maxRecDepth 20000 in
theorem f_Reader_holdSign {l : Launch} {ld : Nat} {M : gM} {L : gL} {Q : Option Value → gM → gL → gR → Prop} (hld : isLa ld) {p1 : Int32}  {q : gM} (h : F_Reader_holdSign p1 M = some q) (hQ : Q none q L (rf ld)) : Tm l y_Reader_holdSign (0, 0, 447) 447 [.ref 3, .int p1] M L (rf ld) Q := by
  refine Tm.of (by decide) (Nat.le_of_ble_eq_true rfl) ?_
  show Wp l y_Reader_holdSign (0, 0, 447) 447 0 0 0 [(0, .ref 3), (1, .int p1)] [] M L (rf ld) Q
  unfold F_Reader_holdSign at h
  refine g_aload_n (pc1 := 1) d_Reader_holdSign_0 rfl 0 rfl ?_
  refine g_getr (pc1 := 4) d_Reader_holdSign_1 rfl ⟨_, fo_Reader_26⟩ sh_3 (by decide) (rf_3_9 ld) ?_
  refine g_aload_n (pc1 := 5) d_Reader_holdSign_4 rfl 0 rfl ?_
  refine g_geti (pc1 := 8) d_Reader_holdSign_5 rfl ⟨_, fo_Reader_199⟩ sh_3 (by decide) ?_
  refine g_iload_n (pc1 := 9) d_Reader_holdSign_8 rfl 1 rfl ?_
  refine g_callS0 (pc1 := 12) (As := [.ref 11, .int (M 3 10), .int p1]) (rest := []) d_Reader_holdSign_9 rfl mo_Reader_138 ms_Main_put (by decide) rfl rfl (Nat.le_of_ble_eq_true rfl) ?_
  obtain ⟨M2, hq1, h⟩ := bnd h
  refine f_Main_put hld sh_11 (by decide) (by decide) hq1 ?_
  dsimp only [psh]
  refine g_aload_n (pc1 := 13) d_Reader_holdSign_12 rfl 0 rfl ?_
  refine g_dup (pc1 := 14) d_Reader_holdSign_13 rfl rfl ?_
  refine g_geti (pc1 := 17) d_Reader_holdSign_14 rfl ⟨_, fo_Reader_199⟩ sh_3 (by decide) ?_
  refine g_iconst (pc1 := 18) (v := 1) d_Reader_holdSign_17 rfl (by decide) ?_
  refine g_iadd (pc1 := 19) d_Reader_holdSign_18 rfl ?_
  refine g_puti (pc1 := 22) d_Reader_holdSign_19 rfl fo_Reader_199 (po_2_10 _) sh_3 (by decide) ?_
  refine Wp.lM h (fun M3 h => ?_)
  refine g_return rfl d_Reader_holdSign_22 rfl ?_
  cases h; exact hQ

def F_Reader_is (p1 : Int32) (M : gM) : Option (Int32) :=
  bI (F_Main_at 6 401 (M 3 1) M) (fun r2 => (if r2 = p1 then some 1 else some 0))
set_option maxHeartbeats 4000000 in
set_option maxRecDepth 20000 in
theorem f_Reader_is {l : Launch} {ld : Nat} {M : gM} {L : gL} {Q : Option Value → gM → gL → gR → Prop} (hld : isLa ld) {p1 : Int32}  {q : Int32} (h : F_Reader_is p1 M = some q) (hQ : Q (some (.int q)) M L (rf ld)) : Tm l y_Reader_is (0, 0, 447) 447 [.ref 3, .int p1] M L (rf ld) Q := by
  refine Tm.of (by decide) (Nat.le_of_ble_eq_true rfl) ?_
  show Wp l y_Reader_is (0, 0, 447) 447 0 0 0 [(0, .ref 3), (1, .int p1)] [] M L (rf ld) Q
  unfold F_Reader_is at h
  refine g_aload_n (pc1 := 1) d_Reader_is_0 rfl 0 rfl ?_
  refine g_getr (pc1 := 4) d_Reader_is_1 rfl ⟨_, fo_Reader_12⟩ sh_3 (by decide) (rf_3_0 ld) ?_
  refine g_getr (pc1 := 7) d_Reader_is_4 rfl ⟨_, fo_Reader_55⟩ sh_4 (by decide) (rf_4_1 ld) ?_
  refine g_aload_n (pc1 := 8) d_Reader_is_7 rfl 0 rfl ?_
  refine g_geti (pc1 := 11) d_Reader_is_8 rfl ⟨_, fo_Reader_38⟩ sh_3 (by decide) ?_
  refine g_callS0 (pc1 := 14) (As := [.ref 6, .int (M 3 1)]) (rest := []) d_Reader_is_11 rfl mo_Reader_58 ms_Main_at (by decide) rfl rfl (Nat.le_of_ble_eq_true rfl) ?_
  obtain ⟨r2, hq1, h⟩ := bnd h
  refine f_Main_at hld sh_6 (by decide) (by decide) hq1 ?_
  dsimp only [psh]
  refine g_iload_n (pc1 := 15) d_Reader_is_14 rfl 1 rfl ?_
  refine g_icmp_ne (pc1 := 18) (tgt := 22) d_Reader_is_15 (by decide) rfl (fun c3 => ?_) (fun c3 => ?_)
  · replace h := itn h c3
    refine g_iconst (pc1 := 23) (v := 0) d_Reader_is_22 rfl (by decide) ?_
    refine g_ireturn (Or.inr ⟨rfl, rfl⟩) d_Reader_is_23 rfl ?_
    cases h; exact hQ
  · replace h := itp h c3
    refine g_iconst (pc1 := 19) (v := 1) d_Reader_is_18 rfl (by decide) ?_
    refine g_goto (tgt := 23) d_Reader_is_19 (by decide) ?_
    refine g_ireturn (Or.inr ⟨rfl, rfl⟩) d_Reader_is_23 rfl ?_
    cases h; exact hQ

def B_Reader_layHeld_0 (Wl1 : Nat) (v2 : Int32) (K0 : gM → Option (gM)) : gM → Option (gM) := fun M =>
  (if (M 3 10) ≤ 0 then some M else bI (F_Main_at 11 32 ((M 3 10) - 1) M) (fun r3 => bI (F_Reader_rank r3) (fun r5 => (if r5 < v2 then some M else nmM (uM M 3 10 ((M 3 10) - 1)) (fun M7 => bI (F_Main_at 11 32 (M7 3 10) M7) (fun r9 => bI (F_Law_add Wl1 (20000 + r9) M7) (fun M11 => K0 M11)))))))
def H_Reader_layHeld_0 (Wl1 : Nat) (v2 : Int32) : Nat → gM → Option (gM) := lpK (B_Reader_layHeld_0 Wl1 v2) (fun _ => none)
set_option maxHeartbeats 4000000 in
set_option maxRecDepth 20000 in
theorem h_Reader_layHeld_0 {l : Launch} {ld : Nat} {Q : Option Value → gM → gL → gR → Prop} (hld : isLa ld) {Wl1 : Nat} (hWl1 : isLw Wl1) {q : gM} {L : gL} (hQ : Q none q L (rf ld))  {v2 : Int32}  : ∀ (f : Nat) (M : gM), H_Reader_layHeld_0 Wl1 v2 f M = some q → Wp l y_Reader_layHeld (0, 0, 447) 447 0 0 0 [(0, .ref 3), (1, .ref Wl1), (2, .int v2)] [] M L (rf ld) Q := by
  intro f
  induction f with
  | zero => intro M h; cases h
  | succ f hK0 =>
    intro M h
    replace h : B_Reader_layHeld_0 Wl1 v2 (H_Reader_layHeld_0 Wl1 v2 f) M = some q := h
    unfold B_Reader_layHeld_0 at h
    refine g_aload_n (pc1 := 1) d_Reader_layHeld_0 rfl 0 rfl ?_
    refine g_geti (pc1 := 4) d_Reader_layHeld_1 rfl ⟨_, fo_Reader_199⟩ sh_3 (by decide) ?_
    refine g_if_le (pc1 := 7) (tgt := 59) d_Reader_layHeld_4 (by decide) rfl (fun c1 => ?_) (fun c1 => ?_)
    · replace h := itp h c1
      refine g_return rfl d_Reader_layHeld_59 rfl ?_
      cases h; exact hQ
    · replace h := itn h c1
      refine g_aload_n (pc1 := 8) d_Reader_layHeld_7 rfl 0 rfl ?_
      refine g_getr (pc1 := 11) d_Reader_layHeld_8 rfl ⟨_, fo_Reader_26⟩ sh_3 (by decide) (rf_3_9 ld) ?_
      refine g_aload_n (pc1 := 12) d_Reader_layHeld_11 rfl 0 rfl ?_
      refine g_geti (pc1 := 15) d_Reader_layHeld_12 rfl ⟨_, fo_Reader_199⟩ sh_3 (by decide) ?_
      refine g_iconst (pc1 := 16) (v := 1) d_Reader_layHeld_15 rfl (by decide) ?_
      refine g_isub (pc1 := 17) d_Reader_layHeld_16 rfl ?_
      refine g_callS0 (pc1 := 20) (As := [.ref 11, .int ((M 3 10) - 1)]) (rest := []) d_Reader_layHeld_17 rfl mo_Reader_58 ms_Main_at (by decide) rfl rfl (Nat.le_of_ble_eq_true rfl) ?_
      obtain ⟨r3, hq2, h⟩ := bnd h
      refine f_Main_at hld sh_11 (by decide) (by decide) hq2 ?_
      dsimp only [psh]
      refine g_callS0 (pc1 := 23) (As := [.int r3]) (rest := []) d_Reader_layHeld_20 rfl mo_Reader_206 ms_Reader_rank (by decide) rfl rfl (Nat.le_of_ble_eq_true rfl) ?_
      obtain ⟨r5, hq4, h⟩ := bnd h
      refine f_Reader_rank hld  hq4 ?_
      dsimp only [psh]
      refine g_iload_n (pc1 := 24) d_Reader_layHeld_23 rfl 2 rfl ?_
      refine g_icmp_lt (pc1 := 27) (tgt := 59) d_Reader_layHeld_24 (by decide) rfl (fun c6 => ?_) (fun c6 => ?_)
      · replace h := itp h c6
        refine g_return rfl d_Reader_layHeld_59 rfl ?_
        cases h; exact hQ
      · replace h := itn h c6
        refine g_aload_n (pc1 := 28) d_Reader_layHeld_27 rfl 0 rfl ?_
        refine g_dup (pc1 := 29) d_Reader_layHeld_28 rfl rfl ?_
        refine g_geti (pc1 := 32) d_Reader_layHeld_29 rfl ⟨_, fo_Reader_199⟩ sh_3 (by decide) ?_
        refine g_iconst (pc1 := 33) (v := 1) d_Reader_layHeld_32 rfl (by decide) ?_
        refine g_isub (pc1 := 34) d_Reader_layHeld_33 rfl ?_
        refine g_puti (pc1 := 37) d_Reader_layHeld_34 rfl fo_Reader_199 (po_2_10 _) sh_3 (by decide) ?_
        refine Wp.lM h (fun M7 h => ?_)
        refine g_aload_n (pc1 := 38) d_Reader_layHeld_37 rfl 1 rfl ?_
        refine g_sipush (pc1 := 41) (v := 20000) d_Reader_layHeld_38 rfl (by decide) ?_
        refine g_aload_n (pc1 := 42) d_Reader_layHeld_41 rfl 0 rfl ?_
        refine g_getr (pc1 := 45) d_Reader_layHeld_42 rfl ⟨_, fo_Reader_26⟩ sh_3 (by decide) (rf_3_9 ld) ?_
        refine g_aload_n (pc1 := 46) d_Reader_layHeld_45 rfl 0 rfl ?_
        refine g_geti (pc1 := 49) d_Reader_layHeld_46 rfl ⟨_, fo_Reader_199⟩ sh_3 (by decide) ?_
        refine g_callS0 (pc1 := 52) (As := [.ref 11, .int (M7 3 10)]) (rest := [.int 20000, .ref Wl1]) d_Reader_layHeld_49 rfl mo_Reader_58 ms_Main_at (by decide) rfl rfl (Nat.le_of_ble_eq_true rfl) ?_
        obtain ⟨r9, hq8, h⟩ := bnd h
        refine f_Main_at hld sh_11 (by decide) (by decide) hq8 ?_
        dsimp only [psh]
        refine g_iadd (pc1 := 53) d_Reader_layHeld_52 rfl ?_
        refine g_callV0 (pc1 := 56) (As := [.int (20000 + r9)]) (rest := []) d_Reader_layHeld_53 rfl mo_Reader_222 mi_Law_add mv_Law_add rfl (shLw_0 hWl1) (ltLw_0 hWl1) (by decide) rfl rfl (Nat.le_of_ble_eq_true rfl) ?_
        obtain ⟨M11, hq10, h⟩ := bnd h
        refine f_Law_add hld hWl1 hq10 ?_
        dsimp only [psh]
        refine g_goto (tgt := 0) d_Reader_layHeld_56 (by decide) ?_
        exact hK0 M11 h
def F_Reader_layHeld (Wl1 : Nat) (p2 : Int32) (M : gM) : Option (gM) :=
  H_Reader_layHeld_0 Wl1 p2 FU M
set_option maxHeartbeats 4000000 in
set_option maxRecDepth 20000 in
theorem f_Reader_layHeld {l : Launch} {ld : Nat} {M : gM} {L : gL} {Q : Option Value → gM → gL → gR → Prop} (hld : isLa ld) {Wl1 : Nat} {p2 : Int32} (hWl1 : isLw Wl1) {q : gM} (h : F_Reader_layHeld Wl1 p2 M = some q) (hQ : Q none q L (rf ld)) : Tm l y_Reader_layHeld (0, 0, 447) 447 [.ref 3, .ref Wl1, .int p2] M L (rf ld) Q := by
  refine Tm.of (by decide) (Nat.le_of_ble_eq_true rfl) ?_
  show Wp l y_Reader_layHeld (0, 0, 447) 447 0 0 0 [(0, .ref 3), (1, .ref Wl1), (2, .int p2)] [] M L (rf ld) Q
  unfold F_Reader_layHeld at h
  exact h_Reader_layHeld_0 hld hWl1 hQ  _ M h

def F_Reader_placeOfFault (M : gM) : Option (Int32) :=
  (if (M 3 2) = 0 then some (-1) else bI (F_Main_at 7 401 (M 3 3) M) (fun r3 => some r3))
set_option maxHeartbeats 4000000 in
set_option maxRecDepth 20000 in
theorem f_Reader_placeOfFault {l : Launch} {ld : Nat} {M : gM} {L : gL} {Q : Option Value → gM → gL → gR → Prop} (hld : isLa ld)   {q : Int32} (h : F_Reader_placeOfFault M = some q) (hQ : Q (some (.int q)) M L (rf ld)) : Tm l y_Reader_placeOfFault (0, 0, 447) 447 [.ref 3] M L (rf ld) Q := by
  refine Tm.of (by decide) (Nat.le_of_ble_eq_true rfl) ?_
  show Wp l y_Reader_placeOfFault (0, 0, 447) 447 0 0 0 [(0, .ref 3)] [] M L (rf ld) Q
  unfold F_Reader_placeOfFault at h
  refine g_aload_n (pc1 := 1) d_Reader_placeOfFault_0 rfl 0 rfl ?_
  refine g_geti (pc1 := 4) d_Reader_placeOfFault_1 rfl ⟨_, fo_Reader_42⟩ sh_3 (by decide) ?_
  refine g_if_ne (pc1 := 7) (tgt := 11) d_Reader_placeOfFault_4 (by decide) rfl (fun c1 => ?_) (fun c1 => ?_)
  · replace h := itn h c1
    refine g_aload_n (pc1 := 12) d_Reader_placeOfFault_11 rfl 0 rfl ?_
    refine g_getr (pc1 := 15) d_Reader_placeOfFault_12 rfl ⟨_, fo_Reader_12⟩ sh_3 (by decide) (rf_3_0 ld) ?_
    refine g_getr (pc1 := 18) d_Reader_placeOfFault_15 rfl ⟨_, fo_Reader_105⟩ sh_4 (by decide) (rf_4_2 ld) ?_
    refine g_aload_n (pc1 := 19) d_Reader_placeOfFault_18 rfl 0 rfl ?_
    refine g_geti (pc1 := 22) d_Reader_placeOfFault_19 rfl ⟨_, fo_Reader_102⟩ sh_3 (by decide) ?_
    refine g_callS0 (pc1 := 25) (As := [.ref 7, .int (M 3 3)]) (rest := []) d_Reader_placeOfFault_22 rfl mo_Reader_58 ms_Main_at (by decide) rfl rfl (Nat.le_of_ble_eq_true rfl) ?_
    obtain ⟨r3, hq2, h⟩ := bnd h
    refine f_Main_at hld sh_7 (by decide) (by decide) hq2 ?_
    dsimp only [psh]
    refine g_ireturn (Or.inl rfl) d_Reader_placeOfFault_25 rfl ?_
    cases h; exact hQ
  · replace h := itp h c1
    refine g_iconst (pc1 := 8) (v := (-1)) d_Reader_placeOfFault_7 rfl (by decide) ?_
    refine g_goto (tgt := 25) d_Reader_placeOfFault_8 (by decide) ?_
    refine g_ireturn (Or.inl rfl) d_Reader_placeOfFault_25 rfl ?_
    cases h; exact hQ

def F_Reader_take (M : gM) : Option (gM) :=
  (if (M 3 2) = 0 then (if (M 3 1) < 400 then nmM (uM M 3 1 ((M 3 1) + 1)) (fun M3 => some M3) else bI (F_Reader_stop 2 M) (fun M5 => some M5)) else some M)
set_option maxHeartbeats 4000000 in
set_option maxRecDepth 20000 in
theorem f_Reader_take {l : Launch} {ld : Nat} {M : gM} {L : gL} {Q : Option Value → gM → gL → gR → Prop} (hld : isLa ld)   {q : gM} (h : F_Reader_take M = some q) (hQ : Q none q L (rf ld)) : Tm l y_Reader_take (0, 0, 447) 447 [.ref 3] M L (rf ld) Q := by
  refine Tm.of (by decide) (Nat.le_of_ble_eq_true rfl) ?_
  show Wp l y_Reader_take (0, 0, 447) 447 0 0 0 [(0, .ref 3)] [] M L (rf ld) Q
  unfold F_Reader_take at h
  refine g_aload_n (pc1 := 1) d_Reader_take_0 rfl 0 rfl ?_
  refine g_geti (pc1 := 4) d_Reader_take_1 rfl ⟨_, fo_Reader_42⟩ sh_3 (by decide) ?_
  refine g_if_eq (pc1 := 7) (tgt := 8) d_Reader_take_4 (by decide) rfl (fun c1 => ?_) (fun c1 => ?_)
  · replace h := itp h c1
    refine g_aload_n (pc1 := 9) d_Reader_take_8 rfl 0 rfl ?_
    refine g_geti (pc1 := 12) d_Reader_take_9 rfl ⟨_, fo_Reader_38⟩ sh_3 (by decide) ?_
    refine g_sipush (pc1 := 15) (v := 400) d_Reader_take_12 rfl (by decide) ?_
    refine g_icmp_lt (pc1 := 18) (tgt := 26) d_Reader_take_15 (by decide) rfl (fun c2 => ?_) (fun c2 => ?_)
    · replace h := itp h c2
      refine g_aload_n (pc1 := 27) d_Reader_take_26 rfl 0 rfl ?_
      refine g_dup (pc1 := 28) d_Reader_take_27 rfl rfl ?_
      refine g_geti (pc1 := 31) d_Reader_take_28 rfl ⟨_, fo_Reader_38⟩ sh_3 (by decide) ?_
      refine g_iconst (pc1 := 32) (v := 1) d_Reader_take_31 rfl (by decide) ?_
      refine g_iadd (pc1 := 33) d_Reader_take_32 rfl ?_
      refine g_puti (pc1 := 36) d_Reader_take_33 rfl fo_Reader_38 (po_2_1 _) sh_3 (by decide) ?_
      refine Wp.lM h (fun M3 h => ?_)
      refine g_return rfl d_Reader_take_36 rfl ?_
      cases h; exact hQ
    · replace h := itn h c2
      refine g_aload_n (pc1 := 19) d_Reader_take_18 rfl 0 rfl ?_
      refine g_iconst (pc1 := 20) (v := 2) d_Reader_take_19 rfl (by decide) ?_
      refine g_callV0 (pc1 := 23) (As := [.int 2]) (rest := []) d_Reader_take_20 rfl mo_Reader_95 mi_Reader_stop mv_Reader_stop rfl sh_3 (by decide) (by decide) rfl rfl (Nat.le_of_ble_eq_true rfl) ?_
      obtain ⟨M5, hq4, h⟩ := bnd h
      refine f_Reader_stop hld  hq4 ?_
      dsimp only [psh]
      refine g_goto (tgt := 36) d_Reader_take_23 (by decide) ?_
      refine g_return rfl d_Reader_take_36 rfl ?_
      cases h; exact hQ
  · replace h := itn h c1
    refine g_return rfl d_Reader_take_7 rfl ?_
    cases h; exact hQ

def F_Slots_full (M : gM) : Option (Int32) :=
  bI (F_Int_bitCount (M 360 1)) (fun r2 => some r2)
set_option maxHeartbeats 4000000 in
set_option maxRecDepth 20000 in
theorem f_Slots_full {l : Launch} {ld : Nat} {M : gM} {L : gL} {Q : Option Value → gM → gL → gR → Prop} (hld : isLa ld)   {q : Int32} (h : F_Slots_full M = some q) (hQ : Q (some (.int q)) M L (rf ld)) : Tm l y_Slots_full (0, 0, 447) 447 [.ref 360] M L (rf ld) Q := by
  refine Tm.of (by decide) (Nat.le_of_ble_eq_true rfl) ?_
  show Wp l y_Slots_full (0, 0, 447) 447 0 0 0 [(0, .ref 360)] [] M L (rf ld) Q
  unfold F_Slots_full at h
  refine g_aload_n (pc1 := 1) d_Slots_full_0 rfl 0 rfl ?_
  refine g_geti (pc1 := 4) d_Slots_full_1 rfl ⟨_, fo_Slots_18⟩ sh_360 (by decide) ?_
  refine g_callS0 (pc1 := 7) (As := [.int (M 360 1)]) (rest := []) d_Slots_full_4 rfl mo_Slots_30 ms_Int_bitCount (by decide) rfl rfl (Nat.le_of_ble_eq_true rfl) ?_
  obtain ⟨r2, hq1, h⟩ := bnd h
  refine f_Int_bitCount hld  hq1 ?_
  dsimp only [psh]
  refine g_ireturn (Or.inl rfl) d_Slots_full_7 rfl ?_
  cases h; exact hQ

def F_State_agoOf (X0 : Nat) (p1 : Int32) (M : gM) : Option (Int32) :=
  bI (F_Main_at (X0 + 5) 4 p1 M) (fun r2 => some ((M X0 0) - r2))
set_option maxHeartbeats 4000000 in
set_option maxRecDepth 20000 in
theorem f_State_agoOf {l : Launch} {ld : Nat} {M : gM} {L : gL} {Q : Option Value → gM → gL → gR → Prop} (hld : isLa ld) {X0 : Nat} {p1 : Int32} (hX0 : isSt X0) {q : Int32} (h : F_State_agoOf X0 p1 M = some q) (hQ : Q (some (.int q)) M L (rf ld)) : Tm l y_State_agoOf (0, 0, 447) 447 [.ref X0, .int p1] M L (rf ld) Q := by
  refine Tm.of (by decide) (Nat.le_of_ble_eq_true rfl) ?_
  show Wp l y_State_agoOf (0, 0, 447) 447 0 0 0 [(0, .ref X0), (1, .int p1)] [] M L (rf ld) Q
  unfold F_State_agoOf at h
  refine g_aload_n (pc1 := 1) d_State_agoOf_0 rfl 0 rfl ?_
  refine g_geti (pc1 := 4) d_State_agoOf_1 rfl ⟨_, fo_State_34⟩ (shSt_0 hX0) (ltSt_0 hX0) ?_
  refine g_aload_n (pc1 := 5) d_State_agoOf_4 rfl 0 rfl ?_
  refine g_getr (pc1 := 8) d_State_agoOf_5 rfl ⟨_, fo_State_28⟩ (shSt_0 hX0) (ltSt_0 hX0) (rfSt_8 ld hX0) ?_
  refine g_iload_n (pc1 := 9) d_State_agoOf_8 rfl 1 rfl ?_
  refine g_callS0 (pc1 := 12) (As := [.ref (X0 + 5), .int p1]) (rest := [.int (M X0 0)]) d_State_agoOf_9 rfl mo_State_53 ms_Main_at (by decide) rfl rfl (Nat.le_of_ble_eq_true rfl) ?_
  obtain ⟨r2, hq1, h⟩ := bnd h
  refine f_Main_at hld (shSt_5 hX0) (ltSt_5 hX0) (by decide) hq1 ?_
  dsimp only [psh]
  refine g_isub (pc1 := 13) d_State_agoOf_12 rfl ?_
  refine g_ireturn (Or.inl rfl) d_State_agoOf_13 rfl ?_
  cases h; exact hQ

def B_State_allMeals_4 (X0 : Nat) (M : gM) (K4 : Int32 → Int32 → Option (Int32)) : Int32 → Int32 → Option (Int32) := fun v1 v2 =>
  (if 4 ≤ v2 then some v1 else bI (F_Main_at (X0 + 4) 4 v2 M) (fun r3 => nmI (v1 + r3) (fun x4 => nmI (v2 + 1) (fun x5 => K4 x4 x5))))
def H_State_allMeals_4 (X0 : Nat) (M : gM) : Nat → Int32 → Int32 → Option (Int32) := lpK (B_State_allMeals_4 X0 M) (fun _ _ => none)
set_option maxHeartbeats 4000000 in
set_option maxRecDepth 20000 in
theorem h_State_allMeals_4 {l : Launch} {ld : Nat} {Q : Option Value → gM → gL → gR → Prop} (hld : isLa ld) {X0 : Nat} (hX0 : isSt X0) {q : Int32} {M : gM} {L : gL} (hQ : Q (some (.int q)) M L (rf ld))    : ∀ (f : Nat) (v1 : Int32) (v2 : Int32), H_State_allMeals_4 X0 M f v1 v2 = some q → Wp l y_State_allMeals (0, 0, 447) 447 0 0 4 [(0, .ref X0), (1, .int v1), (2, .int v2)] [] M L (rf ld) Q := by
  intro f
  induction f with
  | zero => intro v1 v2 h; cases h
  | succ f hK4 =>
    intro v1 v2 h
    replace h : B_State_allMeals_4 X0 M (H_State_allMeals_4 X0 M f) v1 v2 = some q := h
    unfold B_State_allMeals_4 at h
    refine g_iload_n (pc1 := 5) d_State_allMeals_4 rfl 2 rfl ?_
    refine g_iconst (pc1 := 6) (v := 4) d_State_allMeals_5 rfl (by decide) ?_
    refine g_icmp_ge (pc1 := 9) (tgt := 26) d_State_allMeals_6 (by decide) rfl (fun c1 => ?_) (fun c1 => ?_)
    · replace h := itp h c1
      refine g_iload_n (pc1 := 27) d_State_allMeals_26 rfl 1 rfl ?_
      refine g_ireturn (Or.inl rfl) d_State_allMeals_27 rfl ?_
      cases h; exact hQ
    · replace h := itn h c1
      refine g_iload_n (pc1 := 10) d_State_allMeals_9 rfl 1 rfl ?_
      refine g_aload_n (pc1 := 11) d_State_allMeals_10 rfl 0 rfl ?_
      refine g_getr (pc1 := 14) d_State_allMeals_11 rfl ⟨_, fo_State_25⟩ (shSt_0 hX0) (ltSt_0 hX0) (rfSt_7 ld hX0) ?_
      refine g_iload_n (pc1 := 15) d_State_allMeals_14 rfl 2 rfl ?_
      refine g_callS0 (pc1 := 18) (As := [.ref (X0 + 4), .int v2]) (rest := [.int v1]) d_State_allMeals_15 rfl mo_State_53 ms_Main_at (by decide) rfl rfl (Nat.le_of_ble_eq_true rfl) ?_
      obtain ⟨r3, hq2, h⟩ := bnd h
      refine f_Main_at hld (shSt_4 hX0) (ltSt_4 hX0) (by decide) hq2 ?_
      dsimp only [psh]
      refine g_iadd (pc1 := 19) d_State_allMeals_18 rfl ?_
      refine Wp.lI h (fun x4 h => ?_)
      refine g_istore_n (pc1 := 20) (lv' := [(0, .ref X0), (1, .int x4), (2, .int v2)]) d_State_allMeals_19 rfl rfl (by decide) [1, 0, 2] rfl ?_
      obtain ⟨x5, ex5, h⟩ := ltI h
      refine g_iinc (pc1 := 23) (v := x5) (lv' := [(0, .ref X0), (1, .int x4), (2, .int x5)]) d_State_allMeals_20 rfl 2 rfl (by rw [ex5]; rfl) (by decide) [1, 2, 0] rfl ?_
      refine g_goto (tgt := 4) d_State_allMeals_23 (by decide) ?_
      exact hK4 x4 x5 h
def F_State_allMeals (X0 : Nat) (M : gM) : Option (Int32) :=
  H_State_allMeals_4 X0 M FU 0 0
set_option maxHeartbeats 4000000 in
set_option maxRecDepth 20000 in
theorem f_State_allMeals {l : Launch} {ld : Nat} {M : gM} {L : gL} {Q : Option Value → gM → gL → gR → Prop} (hld : isLa ld) {X0 : Nat} (hX0 : isSt X0) {q : Int32} (h : F_State_allMeals X0 M = some q) (hQ : Q (some (.int q)) M L (rf ld)) : Tm l y_State_allMeals (0, 0, 447) 447 [.ref X0] M L (rf ld) Q := by
  refine Tm.of (by decide) (Nat.le_of_ble_eq_true rfl) ?_
  show Wp l y_State_allMeals (0, 0, 447) 447 0 0 0 [(0, .ref X0)] [] M L (rf ld) Q
  unfold F_State_allMeals at h
  refine g_iconst (pc1 := 1) (v := 0) d_State_allMeals_0 rfl (by decide) ?_
  refine g_istore_n (pc1 := 2) (lv' := [(0, .ref X0), (1, .int 0)]) d_State_allMeals_1 rfl rfl (by decide) [1, 0] rfl ?_
  refine g_iconst (pc1 := 3) (v := 0) d_State_allMeals_2 rfl (by decide) ?_
  refine g_istore_n (pc1 := 4) (lv' := [(0, .ref X0), (1, .int 0), (2, .int 0)]) d_State_allMeals_3 rfl rfl (by decide) [1, 2, 0] rfl ?_
  exact h_State_allMeals_4 hld hX0 hQ  _ 0 0 h

def J_State_begin_89 (X0 : Nat) (Ld1 : Nat) (K58 : Int32 → gM → Option (gM)) (v2 : Int32) (s1 : Int32) (s2 : Int32) (M : gM) : Option (gM) :=
  bI (F_Main_put (X0 + 2) 6 s1 s2 M) (fun M18 => nmI (v2 + 1) (fun x19 => K58 x19 M18))
set_option maxHeartbeats 4000000 in
set_option maxRecDepth 20000 in
theorem j_State_begin_89 {l : Launch} {ld : Nat} {Q : Option Value → gM → gL → gR → Prop} (hld : isLa ld) {X0 : Nat} {Ld1 : Nat} (hX0 : isSt X0) (hLd1 : isLa Ld1) {q : gM} {M : gM} {L : gL} (hQ : Q none q L (rf ld)) {K58 : Int32 → gM → Option (gM)} {v2 : Int32} {s1 : Int32} {s2 : Int32} (hK58 : ∀ (w2 : Int32) (M : gM), K58 w2 M = some q → Wp l y_State_begin (0, 0, 447) 447 0 0 58 [(0, .ref X0), (1, .ref Ld1), (2, .int w2)] [] M L (rf ld) Q) (h : J_State_begin_89 X0 Ld1 K58 v2 s1 s2 M = some q) : Wp l y_State_begin (0, 0, 447) 447 0 0 89 [(0, .ref X0), (1, .ref Ld1), (2, .int v2)] [.int s2, .int s1, .ref (X0 + 2)] M L (rf ld) Q := by
  unfold J_State_begin_89 at h
  refine g_callS0 (pc1 := 92) (As := [.ref (X0 + 2), .int s1, .int s2]) (rest := []) d_State_begin_89 rfl mo_State_57 ms_Main_put (by decide) rfl rfl (Nat.le_of_ble_eq_true rfl) ?_
  obtain ⟨M18, hq17, h⟩ := bnd h
  refine f_Main_put hld (shSt_2 hX0) (ltSt_2 hX0) (by decide) hq17 ?_
  dsimp only [psh]
  obtain ⟨x19, ex19, h⟩ := ltI h
  refine g_iinc (pc1 := 95) (v := x19) (lv' := [(0, .ref X0), (1, .ref Ld1), (2, .int x19)]) d_State_begin_92 rfl 2 rfl (by rw [ex19]; rfl) (by decide) [1, 2, 0] rfl ?_
  refine g_goto (tgt := 58) d_State_begin_95 (by decide) ?_
  exact hK58 x19 M18 h
def B_State_begin_58 (X0 : Nat) (Ld1 : Nat) (K58 : Int32 → gM → Option (gM)) : Int32 → gM → Option (gM) := fun v2 M =>
  (if 6 ≤ v2 then some M else (if (M Ld1 0) ≤ v2 then J_State_begin_89 X0 Ld1 K58 v2 v2 0 M else bI (F_Main_at (Ld1 + 1) 6 v2 M) (fun r21 => J_State_begin_89 X0 Ld1 K58 v2 v2 r21 M)))
def H_State_begin_58 (X0 : Nat) (Ld1 : Nat) : Nat → Int32 → gM → Option (gM) := lpK (B_State_begin_58 X0 Ld1) (fun _ _ => none)
set_option maxHeartbeats 4000000 in
set_option maxRecDepth 20000 in
theorem h_State_begin_58 {l : Launch} {ld : Nat} {Q : Option Value → gM → gL → gR → Prop} (hld : isLa ld) {X0 : Nat} {Ld1 : Nat} (hX0 : isSt X0) (hLd1 : isLa Ld1) {q : gM} {L : gL} (hQ : Q none q L (rf ld))    : ∀ (f : Nat) (v2 : Int32) (M : gM), H_State_begin_58 X0 Ld1 f v2 M = some q → Wp l y_State_begin (0, 0, 447) 447 0 0 58 [(0, .ref X0), (1, .ref Ld1), (2, .int v2)] [] M L (rf ld) Q := by
  intro f
  induction f with
  | zero => intro v2 M h; cases h
  | succ f hK58 =>
    intro v2 M h
    replace h : B_State_begin_58 X0 Ld1 (H_State_begin_58 X0 Ld1 f) v2 M = some q := h
    unfold B_State_begin_58 at h
    refine g_iload_n (pc1 := 59) d_State_begin_58 rfl 2 rfl ?_
    refine g_bipush (pc1 := 61) (v := 6) d_State_begin_59 rfl (by decide) ?_
    refine g_icmp_ge (pc1 := 64) (tgt := 98) d_State_begin_61 (by decide) rfl (fun c15 => ?_) (fun c15 => ?_)
    · replace h := itp h c15
      refine g_return rfl d_State_begin_98 rfl ?_
      cases h; exact hQ
    · replace h := itn h c15
      refine g_aload_n (pc1 := 65) d_State_begin_64 rfl 0 rfl ?_
      refine g_getr (pc1 := 68) d_State_begin_65 rfl ⟨_, fo_State_19⟩ (shSt_0 hX0) (ltSt_0 hX0) (rfSt_5 ld hX0) ?_
      refine g_iload_n (pc1 := 69) d_State_begin_68 rfl 2 rfl ?_
      refine g_iload_n (pc1 := 70) d_State_begin_69 rfl 2 rfl ?_
      refine g_aload_n (pc1 := 71) d_State_begin_70 rfl 1 rfl ?_
      refine g_geti (pc1 := 74) d_State_begin_71 rfl ⟨_, fo_State_47⟩ (shLa_0 hLd1) (ltLa_0 hLd1) ?_
      refine g_icmp_ge (pc1 := 77) (tgt := 88) d_State_begin_74 (by decide) rfl (fun c16 => ?_) (fun c16 => ?_)
      · replace h := itp h c16
        refine g_iconst (pc1 := 89) (v := 0) d_State_begin_88 rfl (by decide) ?_
        exact j_State_begin_89 hld hX0 hLd1 hQ hK58 h
      · replace h := itn h c16
        refine g_aload_n (pc1 := 78) d_State_begin_77 rfl 1 rfl ?_
        refine g_getr (pc1 := 81) d_State_begin_78 rfl ⟨_, fo_State_52⟩ (shLa_0 hLd1) (ltLa_0 hLd1) (rfLa_5 ld hLd1) ?_
        refine g_iload_n (pc1 := 82) d_State_begin_81 rfl 2 rfl ?_
        refine g_callS0 (pc1 := 85) (As := [.ref (Ld1 + 1), .int v2]) (rest := [.int v2, .ref (X0 + 2)]) d_State_begin_82 rfl mo_State_53 ms_Main_at (by decide) rfl rfl (Nat.le_of_ble_eq_true rfl) ?_
        obtain ⟨r21, hq20, h⟩ := bnd h
        refine f_Main_at hld (shLa_1 hLd1) (ltLa_1 hLd1) (by decide) hq20 ?_
        dsimp only [psh]
        refine g_goto (tgt := 89) d_State_begin_85 (by decide) ?_
        exact j_State_begin_89 hld hX0 hLd1 hQ hK58 h
def F_State_begin (X0 : Nat) (Ld1 : Nat) (M : gM) : Option (gM) :=
  nmM (uM M X0 0 0) (fun M1 => nmM (uM M1 X0 1 0) (fun M2 => nmM (uM M2 X0 2 0) (fun M3 => nmM (uM M3 X0 3 (-2)) (fun M4 => bI (F_Main_wipe (X0 + 1) 3 M4) (fun M6 => bI (F_Main_wipe (X0 + 3) 5 M6) (fun M8 => bI (F_Main_wipe (X0 + 4) 4 M8) (fun M10 => bI (F_Main_wipe (X0 + 5) 4 M10) (fun M12 => bI (F_Main_wipe (X0 + 6) 12 M12) (fun M14 => H_State_begin_58 X0 Ld1 FU 0 M14)))))))))
set_option maxHeartbeats 4000000 in
set_option maxRecDepth 20000 in
theorem f_State_begin {l : Launch} {ld : Nat} {M : gM} {L : gL} {Q : Option Value → gM → gL → gR → Prop} (hld : isLa ld) {X0 : Nat} {Ld1 : Nat} (hX0 : isSt X0) (hLd1 : isLa Ld1) {q : gM} (h : F_State_begin X0 Ld1 M = some q) (hQ : Q none q L (rf ld)) : Tm l y_State_begin (0, 0, 447) 447 [.ref X0, .ref Ld1] M L (rf ld) Q := by
  refine Tm.of (by decide) (Nat.le_of_ble_eq_true rfl) ?_
  show Wp l y_State_begin (0, 0, 447) 447 0 0 0 [(0, .ref X0), (1, .ref Ld1)] [] M L (rf ld) Q
  unfold F_State_begin at h
  refine g_aload_n (pc1 := 1) d_State_begin_0 rfl 0 rfl ?_
  refine g_iconst (pc1 := 2) (v := 0) d_State_begin_1 rfl (by decide) ?_
  refine g_puti (pc1 := 5) d_State_begin_2 rfl fo_State_34 (po_6_0 _) (shSt_0 hX0) (ltSt_0 hX0) ?_
  refine Wp.lM h (fun M1 h => ?_)
  refine g_aload_n (pc1 := 6) d_State_begin_5 rfl 0 rfl ?_
  refine g_iconst (pc1 := 7) (v := 0) d_State_begin_6 rfl (by decide) ?_
  refine g_puti (pc1 := 10) d_State_begin_7 rfl fo_State_37 (po_6_1 _) (shSt_0 hX0) (ltSt_0 hX0) ?_
  refine Wp.lM h (fun M2 h => ?_)
  refine g_aload_n (pc1 := 11) d_State_begin_10 rfl 0 rfl ?_
  refine g_iconst (pc1 := 12) (v := 0) d_State_begin_11 rfl (by decide) ?_
  refine g_puti (pc1 := 15) d_State_begin_12 rfl fo_State_40 (po_6_2 _) (shSt_0 hX0) (ltSt_0 hX0) ?_
  refine Wp.lM h (fun M3 h => ?_)
  refine g_aload_n (pc1 := 16) d_State_begin_15 rfl 0 rfl ?_
  refine g_bipush (pc1 := 18) (v := (-2)) d_State_begin_16 rfl (by decide) ?_
  refine g_puti (pc1 := 21) d_State_begin_18 rfl fo_State_9 (po_6_3 _) (shSt_0 hX0) (ltSt_0 hX0) ?_
  refine Wp.lM h (fun M4 h => ?_)
  refine g_aload_n (pc1 := 22) d_State_begin_21 rfl 0 rfl ?_
  refine g_getr (pc1 := 25) d_State_begin_22 rfl ⟨_, fo_State_15⟩ (shSt_0 hX0) (ltSt_0 hX0) (rfSt_4 ld hX0) ?_
  refine g_callS0 (pc1 := 28) (As := [.ref (X0 + 1)]) (rest := []) d_State_begin_25 rfl mo_State_43 ms_Main_wipe (by decide) rfl rfl (Nat.le_of_ble_eq_true rfl) ?_
  obtain ⟨M6, hq5, h⟩ := bnd h
  refine f_Main_wipe hld (shSt_1 hX0) (ltSt_1 hX0) (by decide) hq5 ?_
  dsimp only [psh]
  refine g_aload_n (pc1 := 29) d_State_begin_28 rfl 0 rfl ?_
  refine g_getr (pc1 := 32) d_State_begin_29 rfl ⟨_, fo_State_22⟩ (shSt_0 hX0) (ltSt_0 hX0) (rfSt_6 ld hX0) ?_
  refine g_callS0 (pc1 := 35) (As := [.ref (X0 + 3)]) (rest := []) d_State_begin_32 rfl mo_State_43 ms_Main_wipe (by decide) rfl rfl (Nat.le_of_ble_eq_true rfl) ?_
  obtain ⟨M8, hq7, h⟩ := bnd h
  refine f_Main_wipe hld (shSt_3 hX0) (ltSt_3 hX0) (by decide) hq7 ?_
  dsimp only [psh]
  refine g_aload_n (pc1 := 36) d_State_begin_35 rfl 0 rfl ?_
  refine g_getr (pc1 := 39) d_State_begin_36 rfl ⟨_, fo_State_25⟩ (shSt_0 hX0) (ltSt_0 hX0) (rfSt_7 ld hX0) ?_
  refine g_callS0 (pc1 := 42) (As := [.ref (X0 + 4)]) (rest := []) d_State_begin_39 rfl mo_State_43 ms_Main_wipe (by decide) rfl rfl (Nat.le_of_ble_eq_true rfl) ?_
  obtain ⟨M10, hq9, h⟩ := bnd h
  refine f_Main_wipe hld (shSt_4 hX0) (ltSt_4 hX0) (by decide) hq9 ?_
  dsimp only [psh]
  refine g_aload_n (pc1 := 43) d_State_begin_42 rfl 0 rfl ?_
  refine g_getr (pc1 := 46) d_State_begin_43 rfl ⟨_, fo_State_28⟩ (shSt_0 hX0) (ltSt_0 hX0) (rfSt_8 ld hX0) ?_
  refine g_callS0 (pc1 := 49) (As := [.ref (X0 + 5)]) (rest := []) d_State_begin_46 rfl mo_State_43 ms_Main_wipe (by decide) rfl rfl (Nat.le_of_ble_eq_true rfl) ?_
  obtain ⟨M12, hq11, h⟩ := bnd h
  refine f_Main_wipe hld (shSt_5 hX0) (ltSt_5 hX0) (by decide) hq11 ?_
  dsimp only [psh]
  refine g_aload_n (pc1 := 50) d_State_begin_49 rfl 0 rfl ?_
  refine g_getr (pc1 := 53) d_State_begin_50 rfl ⟨_, fo_State_31⟩ (shSt_0 hX0) (ltSt_0 hX0) (rfSt_9 ld hX0) ?_
  refine g_callS0 (pc1 := 56) (As := [.ref (X0 + 6)]) (rest := []) d_State_begin_53 rfl mo_State_43 ms_Main_wipe (by decide) rfl rfl (Nat.le_of_ble_eq_true rfl) ?_
  obtain ⟨M14, hq13, h⟩ := bnd h
  refine f_Main_wipe hld (shSt_6 hX0) (ltSt_6 hX0) (by decide) hq13 ?_
  dsimp only [psh]
  refine g_iconst (pc1 := 57) (v := 0) d_State_begin_56 rfl (by decide) ?_
  refine g_istore_n (pc1 := 58) (lv' := [(0, .ref X0), (1, .ref Ld1), (2, .int 0)]) d_State_begin_57 rfl rfl (by decide) [1, 2, 0] rfl ?_
  exact h_State_begin_58 hld hX0 hLd1 hQ  _ 0 M14 h

def F_State_copyFrom (X0 : Nat) (X1 : Nat) (M : gM) : Option (gM) :=
  nmM (uM M X0 0 (M X1 0)) (fun M1 => nmM (uM M1 X0 1 (M1 X1 1)) (fun M2 => nmM (uM M2 X0 2 (M2 X1 2)) (fun M3 => nmM (uM M3 X0 3 (M3 X1 3)) (fun M4 => bI (F_Main_copyRow (X1 + 1) 3 (X0 + 1) 3 M4) (fun M6 => bI (F_Main_copyRow (X1 + 2) 6 (X0 + 2) 6 M6) (fun M8 => bI (F_Main_copyRow (X1 + 3) 5 (X0 + 3) 5 M8) (fun M10 => bI (F_Main_copyRow (X1 + 4) 4 (X0 + 4) 4 M10) (fun M12 => bI (F_Main_copyRow (X1 + 5) 4 (X0 + 5) 4 M12) (fun M14 => bI (F_Main_copyRow (X1 + 6) 12 (X0 + 6) 12 M14) (fun M16 => some M16))))))))))
set_option maxHeartbeats 4000000 in
set_option maxRecDepth 20000 in
theorem f_State_copyFrom {l : Launch} {ld : Nat} {M : gM} {L : gL} {Q : Option Value → gM → gL → gR → Prop} (hld : isLa ld) {X0 : Nat} {X1 : Nat} (hX0 : isSt X0) (hX1 : isSt X1) {q : gM} (h : F_State_copyFrom X0 X1 M = some q) (hQ : Q none q L (rf ld)) : Tm l y_State_copyFrom (0, 0, 447) 447 [.ref X0, .ref X1] M L (rf ld) Q := by
  refine Tm.of (by decide) (Nat.le_of_ble_eq_true rfl) ?_
  show Wp l y_State_copyFrom (0, 0, 447) 447 0 0 0 [(0, .ref X0), (1, .ref X1)] [] M L (rf ld) Q
  unfold F_State_copyFrom at h
  refine g_aload_n (pc1 := 1) d_State_copyFrom_0 rfl 0 rfl ?_
  refine g_aload_n (pc1 := 2) d_State_copyFrom_1 rfl 1 rfl ?_
  refine g_geti (pc1 := 5) d_State_copyFrom_2 rfl ⟨_, fo_State_34⟩ (shSt_0 hX1) (ltSt_0 hX1) ?_
  refine g_puti (pc1 := 8) d_State_copyFrom_5 rfl fo_State_34 (po_6_0 _) (shSt_0 hX0) (ltSt_0 hX0) ?_
  refine Wp.lM h (fun M1 h => ?_)
  refine g_aload_n (pc1 := 9) d_State_copyFrom_8 rfl 0 rfl ?_
  refine g_aload_n (pc1 := 10) d_State_copyFrom_9 rfl 1 rfl ?_
  refine g_geti (pc1 := 13) d_State_copyFrom_10 rfl ⟨_, fo_State_37⟩ (shSt_0 hX1) (ltSt_0 hX1) ?_
  refine g_puti (pc1 := 16) d_State_copyFrom_13 rfl fo_State_37 (po_6_1 _) (shSt_0 hX0) (ltSt_0 hX0) ?_
  refine Wp.lM h (fun M2 h => ?_)
  refine g_aload_n (pc1 := 17) d_State_copyFrom_16 rfl 0 rfl ?_
  refine g_aload_n (pc1 := 18) d_State_copyFrom_17 rfl 1 rfl ?_
  refine g_geti (pc1 := 21) d_State_copyFrom_18 rfl ⟨_, fo_State_40⟩ (shSt_0 hX1) (ltSt_0 hX1) ?_
  refine g_puti (pc1 := 24) d_State_copyFrom_21 rfl fo_State_40 (po_6_2 _) (shSt_0 hX0) (ltSt_0 hX0) ?_
  refine Wp.lM h (fun M3 h => ?_)
  refine g_aload_n (pc1 := 25) d_State_copyFrom_24 rfl 0 rfl ?_
  refine g_aload_n (pc1 := 26) d_State_copyFrom_25 rfl 1 rfl ?_
  refine g_geti (pc1 := 29) d_State_copyFrom_26 rfl ⟨_, fo_State_9⟩ (shSt_0 hX1) (ltSt_0 hX1) ?_
  refine g_puti (pc1 := 32) d_State_copyFrom_29 rfl fo_State_9 (po_6_3 _) (shSt_0 hX0) (ltSt_0 hX0) ?_
  refine Wp.lM h (fun M4 h => ?_)
  refine g_aload_n (pc1 := 33) d_State_copyFrom_32 rfl 1 rfl ?_
  refine g_getr (pc1 := 36) d_State_copyFrom_33 rfl ⟨_, fo_State_15⟩ (shSt_0 hX1) (ltSt_0 hX1) (rfSt_4 ld hX1) ?_
  refine g_aload_n (pc1 := 37) d_State_copyFrom_36 rfl 0 rfl ?_
  refine g_getr (pc1 := 40) d_State_copyFrom_37 rfl ⟨_, fo_State_15⟩ (shSt_0 hX0) (ltSt_0 hX0) (rfSt_4 ld hX0) ?_
  refine g_callS0 (pc1 := 43) (As := [.ref (X1 + 1), .ref (X0 + 1)]) (rest := []) d_State_copyFrom_40 rfl mo_State_61 ms_Main_copyRow (by decide) rfl rfl (Nat.le_of_ble_eq_true rfl) ?_
  obtain ⟨M6, hq5, h⟩ := bnd h
  refine f_Main_copyRow hld (shSt_1 hX1) (ltSt_1 hX1) (by decide) (shSt_1 hX0) (ltSt_1 hX0) (by decide) hq5 ?_
  dsimp only [psh]
  refine g_aload_n (pc1 := 44) d_State_copyFrom_43 rfl 1 rfl ?_
  refine g_getr (pc1 := 47) d_State_copyFrom_44 rfl ⟨_, fo_State_19⟩ (shSt_0 hX1) (ltSt_0 hX1) (rfSt_5 ld hX1) ?_
  refine g_aload_n (pc1 := 48) d_State_copyFrom_47 rfl 0 rfl ?_
  refine g_getr (pc1 := 51) d_State_copyFrom_48 rfl ⟨_, fo_State_19⟩ (shSt_0 hX0) (ltSt_0 hX0) (rfSt_5 ld hX0) ?_
  refine g_callS0 (pc1 := 54) (As := [.ref (X1 + 2), .ref (X0 + 2)]) (rest := []) d_State_copyFrom_51 rfl mo_State_61 ms_Main_copyRow (by decide) rfl rfl (Nat.le_of_ble_eq_true rfl) ?_
  obtain ⟨M8, hq7, h⟩ := bnd h
  refine f_Main_copyRow hld (shSt_2 hX1) (ltSt_2 hX1) (by decide) (shSt_2 hX0) (ltSt_2 hX0) (by decide) hq7 ?_
  dsimp only [psh]
  refine g_aload_n (pc1 := 55) d_State_copyFrom_54 rfl 1 rfl ?_
  refine g_getr (pc1 := 58) d_State_copyFrom_55 rfl ⟨_, fo_State_22⟩ (shSt_0 hX1) (ltSt_0 hX1) (rfSt_6 ld hX1) ?_
  refine g_aload_n (pc1 := 59) d_State_copyFrom_58 rfl 0 rfl ?_
  refine g_getr (pc1 := 62) d_State_copyFrom_59 rfl ⟨_, fo_State_22⟩ (shSt_0 hX0) (ltSt_0 hX0) (rfSt_6 ld hX0) ?_
  refine g_callS0 (pc1 := 65) (As := [.ref (X1 + 3), .ref (X0 + 3)]) (rest := []) d_State_copyFrom_62 rfl mo_State_61 ms_Main_copyRow (by decide) rfl rfl (Nat.le_of_ble_eq_true rfl) ?_
  obtain ⟨M10, hq9, h⟩ := bnd h
  refine f_Main_copyRow hld (shSt_3 hX1) (ltSt_3 hX1) (by decide) (shSt_3 hX0) (ltSt_3 hX0) (by decide) hq9 ?_
  dsimp only [psh]
  refine g_aload_n (pc1 := 66) d_State_copyFrom_65 rfl 1 rfl ?_
  refine g_getr (pc1 := 69) d_State_copyFrom_66 rfl ⟨_, fo_State_25⟩ (shSt_0 hX1) (ltSt_0 hX1) (rfSt_7 ld hX1) ?_
  refine g_aload_n (pc1 := 70) d_State_copyFrom_69 rfl 0 rfl ?_
  refine g_getr (pc1 := 73) d_State_copyFrom_70 rfl ⟨_, fo_State_25⟩ (shSt_0 hX0) (ltSt_0 hX0) (rfSt_7 ld hX0) ?_
  refine g_callS0 (pc1 := 76) (As := [.ref (X1 + 4), .ref (X0 + 4)]) (rest := []) d_State_copyFrom_73 rfl mo_State_61 ms_Main_copyRow (by decide) rfl rfl (Nat.le_of_ble_eq_true rfl) ?_
  obtain ⟨M12, hq11, h⟩ := bnd h
  refine f_Main_copyRow hld (shSt_4 hX1) (ltSt_4 hX1) (by decide) (shSt_4 hX0) (ltSt_4 hX0) (by decide) hq11 ?_
  dsimp only [psh]
  refine g_aload_n (pc1 := 77) d_State_copyFrom_76 rfl 1 rfl ?_
  refine g_getr (pc1 := 80) d_State_copyFrom_77 rfl ⟨_, fo_State_28⟩ (shSt_0 hX1) (ltSt_0 hX1) (rfSt_8 ld hX1) ?_
  refine g_aload_n (pc1 := 81) d_State_copyFrom_80 rfl 0 rfl ?_
  refine g_getr (pc1 := 84) d_State_copyFrom_81 rfl ⟨_, fo_State_28⟩ (shSt_0 hX0) (ltSt_0 hX0) (rfSt_8 ld hX0) ?_
  refine g_callS0 (pc1 := 87) (As := [.ref (X1 + 5), .ref (X0 + 5)]) (rest := []) d_State_copyFrom_84 rfl mo_State_61 ms_Main_copyRow (by decide) rfl rfl (Nat.le_of_ble_eq_true rfl) ?_
  obtain ⟨M14, hq13, h⟩ := bnd h
  refine f_Main_copyRow hld (shSt_5 hX1) (ltSt_5 hX1) (by decide) (shSt_5 hX0) (ltSt_5 hX0) (by decide) hq13 ?_
  dsimp only [psh]
  refine g_aload_n (pc1 := 88) d_State_copyFrom_87 rfl 1 rfl ?_
  refine g_getr (pc1 := 91) d_State_copyFrom_88 rfl ⟨_, fo_State_31⟩ (shSt_0 hX1) (ltSt_0 hX1) (rfSt_9 ld hX1) ?_
  refine g_aload_n (pc1 := 92) d_State_copyFrom_91 rfl 0 rfl ?_
  refine g_getr (pc1 := 95) d_State_copyFrom_92 rfl ⟨_, fo_State_31⟩ (shSt_0 hX0) (ltSt_0 hX0) (rfSt_9 ld hX0) ?_
  refine g_callS0 (pc1 := 98) (As := [.ref (X1 + 6), .ref (X0 + 6)]) (rest := []) d_State_copyFrom_95 rfl mo_State_61 ms_Main_copyRow (by decide) rfl rfl (Nat.le_of_ble_eq_true rfl) ?_
  obtain ⟨M16, hq15, h⟩ := bnd h
  refine f_Main_copyRow hld (shSt_6 hX1) (ltSt_6 hX1) (by decide) (shSt_6 hX0) (ltSt_6 hX0) (by decide) hq15 ?_
  dsimp only [psh]
  refine g_return rfl d_State_copyFrom_98 rfl ?_
  cases h; exact hQ

def J_State_eatServed_33 (X0 : Nat) (v1 : Int32) (M : gM) : Option (gM) :=
  bI (F_Main_put (X0 + 5) 4 v1 (M X0 0) M) (fun M3 => bI (F_Main_at (X0 + 4) 4 v1 M3) (fun r5 => bI (F_Main_put (X0 + 4) 4 v1 (r5 + 1) M3) (fun M7 => some M7)))
set_option maxHeartbeats 4000000 in
set_option maxRecDepth 20000 in
theorem j_State_eatServed_33 {l : Launch} {ld : Nat} {Q : Option Value → gM → gL → gR → Prop} (hld : isLa ld) {X0 : Nat} (hX0 : isSt X0) {q : gM} {M : gM} {L : gL} (hQ : Q none q L (rf ld))  {v1 : Int32}  (h : J_State_eatServed_33 X0 v1 M = some q) : Wp l y_State_eatServed (0, 0, 447) 447 0 0 33 [(0, .ref X0), (1, .int v1)] [] M L (rf ld) Q := by
  unfold J_State_eatServed_33 at h
  refine g_aload_n (pc1 := 34) d_State_eatServed_33 rfl 0 rfl ?_
  refine g_getr (pc1 := 37) d_State_eatServed_34 rfl ⟨_, fo_State_28⟩ (shSt_0 hX0) (ltSt_0 hX0) (rfSt_8 ld hX0) ?_
  refine g_iload_n (pc1 := 38) d_State_eatServed_37 rfl 1 rfl ?_
  refine g_aload_n (pc1 := 39) d_State_eatServed_38 rfl 0 rfl ?_
  refine g_geti (pc1 := 42) d_State_eatServed_39 rfl ⟨_, fo_State_34⟩ (shSt_0 hX0) (ltSt_0 hX0) ?_
  refine g_callS0 (pc1 := 45) (As := [.ref (X0 + 5), .int v1, .int (M X0 0)]) (rest := []) d_State_eatServed_42 rfl mo_State_57 ms_Main_put (by decide) rfl rfl (Nat.le_of_ble_eq_true rfl) ?_
  obtain ⟨M3, hq2, h⟩ := bnd h
  refine f_Main_put hld (shSt_5 hX0) (ltSt_5 hX0) (by decide) hq2 ?_
  dsimp only [psh]
  refine g_aload_n (pc1 := 46) d_State_eatServed_45 rfl 0 rfl ?_
  refine g_getr (pc1 := 49) d_State_eatServed_46 rfl ⟨_, fo_State_25⟩ (shSt_0 hX0) (ltSt_0 hX0) (rfSt_7 ld hX0) ?_
  refine g_iload_n (pc1 := 50) d_State_eatServed_49 rfl 1 rfl ?_
  refine g_aload_n (pc1 := 51) d_State_eatServed_50 rfl 0 rfl ?_
  refine g_getr (pc1 := 54) d_State_eatServed_51 rfl ⟨_, fo_State_25⟩ (shSt_0 hX0) (ltSt_0 hX0) (rfSt_7 ld hX0) ?_
  refine g_iload_n (pc1 := 55) d_State_eatServed_54 rfl 1 rfl ?_
  refine g_callS0 (pc1 := 58) (As := [.ref (X0 + 4), .int v1]) (rest := [.int v1, .ref (X0 + 4)]) d_State_eatServed_55 rfl mo_State_53 ms_Main_at (by decide) rfl rfl (Nat.le_of_ble_eq_true rfl) ?_
  obtain ⟨r5, hq4, h⟩ := bnd h
  refine f_Main_at hld (shSt_4 hX0) (ltSt_4 hX0) (by decide) hq4 ?_
  dsimp only [psh]
  refine g_iconst (pc1 := 59) (v := 1) d_State_eatServed_58 rfl (by decide) ?_
  refine g_iadd (pc1 := 60) d_State_eatServed_59 rfl ?_
  refine g_callS0 (pc1 := 63) (As := [.ref (X0 + 4), .int v1, .int (r5 + 1)]) (rest := []) d_State_eatServed_60 rfl mo_State_57 ms_Main_put (by decide) rfl rfl (Nat.le_of_ble_eq_true rfl) ?_
  obtain ⟨M7, hq6, h⟩ := bnd h
  refine f_Main_put hld (shSt_4 hX0) (ltSt_4 hX0) (by decide) hq6 ?_
  dsimp only [psh]
  refine g_return rfl d_State_eatServed_63 rfl ?_
  cases h; exact hQ
def B_State_eatServed_2 (X0 : Nat) (v1 : Int32) (K2 : Int32 → gM → Option (gM)) : Int32 → gM → Option (gM) := fun v2 M =>
  (if 3 ≤ v2 then J_State_eatServed_33 X0 v1 M else bI (F_Main_at (X0 + 1) 3 v2 M) (fun r9 => bI (F_Main_put (X0 + 6) 12 ((v1 * 3) + v2) r9 M) (fun M11 => nmI (v2 + 1) (fun x12 => K2 x12 M11))))
def H_State_eatServed_2 (X0 : Nat) (v1 : Int32) : Nat → Int32 → gM → Option (gM) := lpK (B_State_eatServed_2 X0 v1) (fun _ _ => none)
set_option maxHeartbeats 4000000 in
set_option maxRecDepth 20000 in
theorem h_State_eatServed_2 {l : Launch} {ld : Nat} {Q : Option Value → gM → gL → gR → Prop} (hld : isLa ld) {X0 : Nat} (hX0 : isSt X0) {q : gM} {L : gL} (hQ : Q none q L (rf ld))  {v1 : Int32}  : ∀ (f : Nat) (v2 : Int32) (M : gM), H_State_eatServed_2 X0 v1 f v2 M = some q → Wp l y_State_eatServed (0, 0, 447) 447 0 0 2 [(0, .ref X0), (1, .int v1), (2, .int v2)] [] M L (rf ld) Q := by
  intro f
  induction f with
  | zero => intro v2 M h; cases h
  | succ f hK2 =>
    intro v2 M h
    replace h : B_State_eatServed_2 X0 v1 (H_State_eatServed_2 X0 v1 f) v2 M = some q := h
    unfold B_State_eatServed_2 at h
    refine g_iload_n (pc1 := 3) d_State_eatServed_2 rfl 2 rfl ?_
    refine g_iconst (pc1 := 4) (v := 3) d_State_eatServed_3 rfl (by decide) ?_
    refine g_icmp_ge (pc1 := 7) (tgt := 33) d_State_eatServed_4 (by decide) rfl (fun c1 => ?_) (fun c1 => ?_)
    · replace h := itp h c1
      refine Wp.loc (lv' := [(0, .ref X0), (1, .int v1)]) [0, 1] rfl ?_
      exact j_State_eatServed_33 hld hX0 hQ  h
    · replace h := itn h c1
      refine g_aload_n (pc1 := 8) d_State_eatServed_7 rfl 0 rfl ?_
      refine g_getr (pc1 := 11) d_State_eatServed_8 rfl ⟨_, fo_State_31⟩ (shSt_0 hX0) (ltSt_0 hX0) (rfSt_9 ld hX0) ?_
      refine g_iload_n (pc1 := 12) d_State_eatServed_11 rfl 1 rfl ?_
      refine g_iconst (pc1 := 13) (v := 3) d_State_eatServed_12 rfl (by decide) ?_
      refine g_imul (pc1 := 14) d_State_eatServed_13 rfl ?_
      refine g_iload_n (pc1 := 15) d_State_eatServed_14 rfl 2 rfl ?_
      refine g_iadd (pc1 := 16) d_State_eatServed_15 rfl ?_
      refine g_aload_n (pc1 := 17) d_State_eatServed_16 rfl 0 rfl ?_
      refine g_getr (pc1 := 20) d_State_eatServed_17 rfl ⟨_, fo_State_15⟩ (shSt_0 hX0) (ltSt_0 hX0) (rfSt_4 ld hX0) ?_
      refine g_iload_n (pc1 := 21) d_State_eatServed_20 rfl 2 rfl ?_
      refine g_callS0 (pc1 := 24) (As := [.ref (X0 + 1), .int v2]) (rest := [.int ((v1 * 3) + v2), .ref (X0 + 6)]) d_State_eatServed_21 rfl mo_State_53 ms_Main_at (by decide) rfl rfl (Nat.le_of_ble_eq_true rfl) ?_
      obtain ⟨r9, hq8, h⟩ := bnd h
      refine f_Main_at hld (shSt_1 hX0) (ltSt_1 hX0) (by decide) hq8 ?_
      dsimp only [psh]
      refine g_callS0 (pc1 := 27) (As := [.ref (X0 + 6), .int ((v1 * 3) + v2), .int r9]) (rest := []) d_State_eatServed_24 rfl mo_State_57 ms_Main_put (by decide) rfl rfl (Nat.le_of_ble_eq_true rfl) ?_
      obtain ⟨M11, hq10, h⟩ := bnd h
      refine f_Main_put hld (shSt_6 hX0) (ltSt_6 hX0) (by decide) hq10 ?_
      dsimp only [psh]
      obtain ⟨x12, ex12, h⟩ := ltI h
      refine g_iinc (pc1 := 30) (v := x12) (lv' := [(0, .ref X0), (1, .int v1), (2, .int x12)]) d_State_eatServed_27 rfl 2 rfl (by rw [ex12]; rfl) (by decide) [1, 2, 0] rfl ?_
      refine g_goto (tgt := 2) d_State_eatServed_30 (by decide) ?_
      exact hK2 x12 M11 h
def F_State_eatServed (X0 : Nat) (p1 : Int32) (M : gM) : Option (gM) :=
  H_State_eatServed_2 X0 p1 FU 0 M
set_option maxHeartbeats 4000000 in
set_option maxRecDepth 20000 in
theorem f_State_eatServed {l : Launch} {ld : Nat} {M : gM} {L : gL} {Q : Option Value → gM → gL → gR → Prop} (hld : isLa ld) {X0 : Nat} {p1 : Int32} (hX0 : isSt X0) {q : gM} (h : F_State_eatServed X0 p1 M = some q) (hQ : Q none q L (rf ld)) : Tm l y_State_eatServed (0, 0, 447) 447 [.ref X0, .int p1] M L (rf ld) Q := by
  refine Tm.of (by decide) (Nat.le_of_ble_eq_true rfl) ?_
  show Wp l y_State_eatServed (0, 0, 447) 447 0 0 0 [(0, .ref X0), (1, .int p1)] [] M L (rf ld) Q
  unfold F_State_eatServed at h
  refine g_iconst (pc1 := 1) (v := 0) d_State_eatServed_0 rfl (by decide) ?_
  refine g_istore_n (pc1 := 2) (lv' := [(0, .ref X0), (1, .int p1), (2, .int 0)]) d_State_eatServed_1 rfl rfl (by decide) [1, 2, 0] rfl ?_
  exact h_State_eatServed_2 hld hX0 hQ  _ 0 M h
end MG4x0
section MG4x1
def F_State_hasEaten (X0 : Nat) (p1 : Int32) (M : gM) : Option (Int32) :=
  bI (F_Main_at (X0 + 4) 4 p1 M) (fun r2 => (if r2 ≤ 0 then some 0 else some 1))
set_option maxHeartbeats 4000000 in
set_option maxRecDepth 20000 in
theorem f_State_hasEaten {l : Launch} {ld : Nat} {M : gM} {L : gL} {Q : Option Value → gM → gL → gR → Prop} (hld : isLa ld) {X0 : Nat} {p1 : Int32} (hX0 : isSt X0) {q : Int32} (h : F_State_hasEaten X0 p1 M = some q) (hQ : Q (some (.int q)) M L (rf ld)) : Tm l y_State_hasEaten (0, 0, 447) 447 [.ref X0, .int p1] M L (rf ld) Q := by
  refine Tm.of (by decide) (Nat.le_of_ble_eq_true rfl) ?_
  show Wp l y_State_hasEaten (0, 0, 447) 447 0 0 0 [(0, .ref X0), (1, .int p1)] [] M L (rf ld) Q
  unfold F_State_hasEaten at h
  refine g_aload_n (pc1 := 1) d_State_hasEaten_0 rfl 0 rfl ?_
  refine g_getr (pc1 := 4) d_State_hasEaten_1 rfl ⟨_, fo_State_25⟩ (shSt_0 hX0) (ltSt_0 hX0) (rfSt_7 ld hX0) ?_
  refine g_iload_n (pc1 := 5) d_State_hasEaten_4 rfl 1 rfl ?_
  refine g_callS0 (pc1 := 8) (As := [.ref (X0 + 4), .int p1]) (rest := []) d_State_hasEaten_5 rfl mo_State_53 ms_Main_at (by decide) rfl rfl (Nat.le_of_ble_eq_true rfl) ?_
  obtain ⟨r2, hq1, h⟩ := bnd h
  refine f_Main_at hld (shSt_4 hX0) (ltSt_4 hX0) (by decide) hq1 ?_
  dsimp only [psh]
  refine g_if_le (pc1 := 11) (tgt := 15) d_State_hasEaten_8 (by decide) rfl (fun c3 => ?_) (fun c3 => ?_)
  · replace h := itp h c3
    refine g_iconst (pc1 := 16) (v := 0) d_State_hasEaten_15 rfl (by decide) ?_
    refine g_ireturn (Or.inr ⟨rfl, rfl⟩) d_State_hasEaten_16 rfl ?_
    cases h; exact hQ
  · replace h := itn h c3
    refine g_iconst (pc1 := 12) (v := 1) d_State_hasEaten_11 rfl (by decide) ?_
    refine g_goto (tgt := 16) d_State_hasEaten_12 (by decide) ?_
    refine g_ireturn (Or.inr ⟨rfl, rfl⟩) d_State_hasEaten_16 rfl ?_
    cases h; exact hQ

def B_Tape_write_3 (v1 : Int32) (K3 : Int32 → gM → Option (gM)) : Int32 → gM → Option (gM) := fun v2 M =>
  (if v2 < 0 then some M else bI (F_Main_put 2 2000 (M 1 1) (((v1.toUInt32 >>> (v2.toUInt32 &&& Int32.toUInt32 31)).toInt32) &&& 255) M) (fun M3 => nmM (uM M3 1 1 ((M3 1 1) + 1)) (fun M4 => nmI (v2 + (-8)) (fun x5 => K3 x5 M4))))
def H_Tape_write_3 (v1 : Int32) : Nat → Int32 → gM → Option (gM) := lpK (B_Tape_write_3 v1) (fun _ _ => none)
set_option maxHeartbeats 4000000 in
set_option maxRecDepth 20000 in
theorem h_Tape_write_3 {l : Launch} {ld : Nat} {Q : Option Value → gM → gL → gR → Prop} (hld : isLa ld)   {q : gM} {L : gL} (hQ : Q none q L (rf ld))  {v1 : Int32}  : ∀ (f : Nat) (v2 : Int32) (M : gM), H_Tape_write_3 v1 f v2 M = some q → Wp l y_Tape_write (0, 0, 447) 447 0 0 3 [(0, .ref 1), (1, .int v1), (2, .int v2)] [] M L (rf ld) Q := by
  intro f
  induction f with
  | zero => intro v2 M h; cases h
  | succ f hK3 =>
    intro v2 M h
    replace h : B_Tape_write_3 v1 (H_Tape_write_3 v1 f) v2 M = some q := h
    unfold B_Tape_write_3 at h
    refine g_iload_n (pc1 := 4) d_Tape_write_3 rfl 2 rfl ?_
    refine g_if_lt (pc1 := 7) (tgt := 41) d_Tape_write_4 (by decide) rfl (fun c1 => ?_) (fun c1 => ?_)
    · replace h := itp h c1
      refine g_return rfl d_Tape_write_41 rfl ?_
      cases h; exact hQ
    · replace h := itn h c1
      refine g_aload_n (pc1 := 8) d_Tape_write_7 rfl 0 rfl ?_
      refine g_getr (pc1 := 11) d_Tape_write_8 rfl ⟨_, fo_Tape_9⟩ sh_1 (by decide) (rf_1_0 ld) ?_
      refine g_aload_n (pc1 := 12) d_Tape_write_11 rfl 0 rfl ?_
      refine g_geti (pc1 := 15) d_Tape_write_12 rfl ⟨_, fo_Tape_15⟩ sh_1 (by decide) ?_
      refine g_iload_n (pc1 := 16) d_Tape_write_15 rfl 1 rfl ?_
      refine g_iload_n (pc1 := 17) d_Tape_write_16 rfl 2 rfl ?_
      refine g_iushr (pc1 := 18) d_Tape_write_17 rfl ?_
      refine g_sipush (pc1 := 21) (v := 255) d_Tape_write_18 rfl (by decide) ?_
      refine g_iand (pc1 := 22) d_Tape_write_21 rfl ?_
      refine g_callS0 (pc1 := 25) (As := [.ref 2, .int (M 1 1), .int (((v1.toUInt32 >>> (v2.toUInt32 &&& Int32.toUInt32 31)).toInt32) &&& 255)]) (rest := []) d_Tape_write_22 rfl mo_Tape_19 ms_Main_put (by decide) rfl rfl (Nat.le_of_ble_eq_true rfl) ?_
      obtain ⟨M3, hq2, h⟩ := bnd h
      refine f_Main_put hld sh_2 (by decide) (by decide) hq2 ?_
      dsimp only [psh]
      refine g_aload_n (pc1 := 26) d_Tape_write_25 rfl 0 rfl ?_
      refine g_dup (pc1 := 27) d_Tape_write_26 rfl rfl ?_
      refine g_geti (pc1 := 30) d_Tape_write_27 rfl ⟨_, fo_Tape_15⟩ sh_1 (by decide) ?_
      refine g_iconst (pc1 := 31) (v := 1) d_Tape_write_30 rfl (by decide) ?_
      refine g_iadd (pc1 := 32) d_Tape_write_31 rfl ?_
      refine g_puti (pc1 := 35) d_Tape_write_32 rfl fo_Tape_15 (po_1_1 _) sh_1 (by decide) ?_
      refine Wp.lM h (fun M4 h => ?_)
      obtain ⟨x5, ex5, h⟩ := ltI h
      refine g_iinc (pc1 := 38) (v := x5) (lv' := [(0, .ref 1), (1, .int v1), (2, .int x5)]) d_Tape_write_35 rfl 2 rfl (by rw [ex5]; rfl) (by decide) [1, 2, 0] rfl ?_
      refine g_goto (tgt := 3) d_Tape_write_38 (by decide) ?_
      exact hK3 x5 M4 h
def F_Tape_write (p1 : Int32) (M : gM) : Option (gM) :=
  H_Tape_write_3 p1 FU 24 M
set_option maxHeartbeats 4000000 in
set_option maxRecDepth 20000 in
theorem f_Tape_write {l : Launch} {ld : Nat} {M : gM} {L : gL} {Q : Option Value → gM → gL → gR → Prop} (hld : isLa ld) {p1 : Int32}  {q : gM} (h : F_Tape_write p1 M = some q) (hQ : Q none q L (rf ld)) : Tm l y_Tape_write (0, 0, 447) 447 [.ref 1, .int p1] M L (rf ld) Q := by
  refine Tm.of (by decide) (Nat.le_of_ble_eq_true rfl) ?_
  show Wp l y_Tape_write (0, 0, 447) 447 0 0 0 [(0, .ref 1), (1, .int p1)] [] M L (rf ld) Q
  unfold F_Tape_write at h
  refine g_bipush (pc1 := 2) (v := 24) d_Tape_write_0 rfl (by decide) ?_
  refine g_istore_n (pc1 := 3) (lv' := [(0, .ref 1), (1, .int p1), (2, .int 24)]) d_Tape_write_2 rfl rfl (by decide) [1, 2, 0] rfl ?_
  exact h_Tape_write_3 hld  hQ  _ 24 M h

def B_Tokens_behindBlanks_2 (M : gM) (K2 : Int32 → Option (Int32)) : Int32 → Option (Int32) := fun v2 =>
  (if (M 1 1) ≤ v2 then some v2 else bI (F_Tape_byteAt v2 M) (fun r3 => bI (F_Tokens_isBlank r3) (fun r5 => (if r5 = 0 then some v2 else nmI (v2 + 1) (fun x7 => K2 x7)))))
def H_Tokens_behindBlanks_2 (M : gM) : Nat → Int32 → Option (Int32) := lpK (B_Tokens_behindBlanks_2 M) (fun _ => none)
set_option maxHeartbeats 4000000 in
set_option maxRecDepth 20000 in
theorem h_Tokens_behindBlanks_2 {l : Launch} {ld : Nat} {Q : Option Value → gM → gL → gR → Prop} (hld : isLa ld)   {q : Int32} {M : gM} {L : gL} (hQ : Q (some (.int q)) M L (rf ld))    : ∀ (f : Nat) (v2 : Int32), H_Tokens_behindBlanks_2 M f v2 = some q → Wp l y_Tokens_behindBlanks (0, 0, 447) 447 0 0 2 [(0, .ref 1), (2, .int v2)] [] M L (rf ld) Q := by
  intro f
  induction f with
  | zero => intro v2 h; cases h
  | succ f hK2 =>
    intro v2 h
    replace h : B_Tokens_behindBlanks_2 M (H_Tokens_behindBlanks_2 M f) v2 = some q := h
    unfold B_Tokens_behindBlanks_2 at h
    refine g_iload_n (pc1 := 3) d_Tokens_behindBlanks_2 rfl 1 rfl ?_
    refine g_aload_n (pc1 := 4) d_Tokens_behindBlanks_3 rfl 0 rfl ?_
    refine g_geti (pc1 := 7) d_Tokens_behindBlanks_4 rfl ⟨_, fo_Tokens_55⟩ sh_1 (by decide) ?_
    refine g_icmp_ge (pc1 := 10) (tgt := 27) d_Tokens_behindBlanks_7 (by decide) rfl (fun c1 => ?_) (fun c1 => ?_)
    · replace h := itp h c1
      refine g_iload_n (pc1 := 28) d_Tokens_behindBlanks_27 rfl 1 rfl ?_
      refine g_ireturn (Or.inl rfl) d_Tokens_behindBlanks_28 rfl ?_
      cases h; exact hQ
    · replace h := itn h c1
      refine g_aload_n (pc1 := 11) d_Tokens_behindBlanks_10 rfl 0 rfl ?_
      refine g_iload_n (pc1 := 12) d_Tokens_behindBlanks_11 rfl 1 rfl ?_
      refine g_callV0 (pc1 := 15) (As := [.int v2]) (rest := []) d_Tokens_behindBlanks_12 rfl mo_Tokens_60 mi_Tape_byteAt mv_Tape_byteAt rfl sh_1 (by decide) (by decide) rfl rfl (Nat.le_of_ble_eq_true rfl) ?_
      obtain ⟨r3, hq2, h⟩ := bnd h
      refine f_Tape_byteAt hld  hq2 ?_
      dsimp only [psh]
      refine g_callS0 (pc1 := 18) (As := [.int r3]) (rest := []) d_Tokens_behindBlanks_15 rfl mo_Tokens_64 ms_Tokens_isBlank (by decide) rfl rfl (Nat.le_of_ble_eq_true rfl) ?_
      obtain ⟨r5, hq4, h⟩ := bnd h
      refine f_Tokens_isBlank hld  hq4 ?_
      dsimp only [psh]
      refine g_if_eq (pc1 := 21) (tgt := 27) d_Tokens_behindBlanks_18 (by decide) rfl (fun c6 => ?_) (fun c6 => ?_)
      · replace h := itp h c6
        refine g_iload_n (pc1 := 28) d_Tokens_behindBlanks_27 rfl 1 rfl ?_
        refine g_ireturn (Or.inl rfl) d_Tokens_behindBlanks_28 rfl ?_
        cases h; exact hQ
      · replace h := itn h c6
        obtain ⟨x7, ex7, h⟩ := ltI h
        refine g_iinc (pc1 := 24) (v := x7) (lv' := [(0, .ref 1), (2, .int x7)]) d_Tokens_behindBlanks_21 rfl 1 rfl (by rw [ex7]; rfl) (by decide) [1, 0] rfl ?_
        refine g_goto (tgt := 2) d_Tokens_behindBlanks_24 (by decide) ?_
        exact hK2 x7 h
def F_Tokens_behindBlanks (p2 : Int32) (M : gM) : Option (Int32) :=
  H_Tokens_behindBlanks_2 M FU p2
set_option maxHeartbeats 4000000 in
set_option maxRecDepth 20000 in
theorem f_Tokens_behindBlanks {l : Launch} {ld : Nat} {M : gM} {L : gL} {Q : Option Value → gM → gL → gR → Prop} (hld : isLa ld) {p2 : Int32}  {q : Int32} (h : F_Tokens_behindBlanks p2 M = some q) (hQ : Q (some (.int q)) M L (rf ld)) : Tm l y_Tokens_behindBlanks (0, 0, 447) 447 [.ref 1, .int p2] M L (rf ld) Q := by
  refine Tm.of (by decide) (Nat.le_of_ble_eq_true rfl) ?_
  show Wp l y_Tokens_behindBlanks (0, 0, 447) 447 0 0 0 [(0, .ref 1), (1, .int p2)] [] M L (rf ld) Q
  unfold F_Tokens_behindBlanks at h
  refine g_iload_n (pc1 := 1) d_Tokens_behindBlanks_0 rfl 1 rfl ?_
  refine g_istore_n (pc1 := 2) (lv' := [(0, .ref 1), (1, .int p2), (2, .int p2)]) d_Tokens_behindBlanks_1 rfl rfl (by decide) [1, 2, 0] rfl ?_
  refine Wp.loc (lv' := [(0, .ref 1), (2, .int p2)]) [0, 2] rfl ?_
  exact h_Tokens_behindBlanks_2 hld  hQ  _ p2 h

def J_Tokens_cutDigits_77 (v4 : Int64) (v6 : Int32) (s1 : Int32) (s2 : Int32) (M : gM) (L : gL) : Option (Int32 × gM × gL) :=
  bI2 (F_Tokens_set s1 s2 v4 M L) (fun M4 L5 => some (v6, M4, L5))
set_option maxHeartbeats 4000000 in
set_option maxRecDepth 20000 in
theorem j_Tokens_cutDigits_77 {l : Launch} {ld : Nat} {Q : Option Value → gM → gL → gR → Prop} (hld : isLa ld)   {q : Int32 × gM × gL} {M : gM} {L : gL} (hQ : Q (some (.int q.1)) q.2.1 q.2.2 (rf ld))  {v4 : Int64} {v6 : Int32} {s1 : Int32} {s2 : Int32}  (h : J_Tokens_cutDigits_77 v4 v6 s1 s2 M L = some q) : Wp l y_Tokens_cutDigits (0, 0, 447) 447 0 0 77 [(4, .long v4), (6, .int v6)] [.int s2, .int s1, .ref 4] M L (rf ld) Q := by
  unfold J_Tokens_cutDigits_77 at h
  refine g_lload (pc1 := 79) d_Tokens_cutDigits_77 rfl 0 rfl ?_
  refine g_callV0 (pc1 := 82) (As := [.int s1, .int s2, .long v4]) (rest := []) d_Tokens_cutDigits_79 rfl mo_Tokens_74 mi_Tokens_set mv_Tokens_set rfl sh_4 (by decide) (by decide) rfl rfl (Nat.le_of_ble_eq_true rfl) ?_
  obtain ⟨M4, L5, hq3, h⟩ := bnd2 h
  refine f_Tokens_set hld  hq3 ?_
  dsimp only [psh]
  refine g_iload (pc1 := 84) d_Tokens_cutDigits_82 rfl 1 rfl ?_
  refine g_ireturn (Or.inl rfl) d_Tokens_cutDigits_84 rfl ?_
  cases h; exact hQ
def J_Tokens_cutDigits_62 (v2 : Int32) (v3 : Int32) (v4 : Int64) (v6 : Int32) (M : gM) (L : gL) : Option (Int32 × gM × gL) :=
  (if (v6 - v2) ≤ 4 then J_Tokens_cutDigits_77 v4 v6 v3 3 M L else J_Tokens_cutDigits_77 v4 v6 v3 1 M L)
set_option maxHeartbeats 4000000 in
set_option maxRecDepth 20000 in
theorem j_Tokens_cutDigits_62 {l : Launch} {ld : Nat} {Q : Option Value → gM → gL → gR → Prop} (hld : isLa ld)   {q : Int32 × gM × gL} {M : gM} {L : gL} (hQ : Q (some (.int q.1)) q.2.1 q.2.2 (rf ld))  {v2 : Int32} {v3 : Int32} {v4 : Int64} {v6 : Int32}  (h : J_Tokens_cutDigits_62 v2 v3 v4 v6 M L = some q) : Wp l y_Tokens_cutDigits (0, 0, 447) 447 0 0 62 [(0, .ref 4), (2, .int v2), (3, .int v3), (4, .long v4), (6, .int v6)] [] M L (rf ld) Q := by
  unfold J_Tokens_cutDigits_62 at h
  refine g_aload_n (pc1 := 63) d_Tokens_cutDigits_62 rfl 0 rfl ?_
  refine g_iload_n (pc1 := 64) d_Tokens_cutDigits_63 rfl 2 rfl ?_
  refine g_iload (pc1 := 66) d_Tokens_cutDigits_64 rfl 4 rfl ?_
  refine g_iload_n (pc1 := 67) d_Tokens_cutDigits_66 rfl 1 rfl ?_
  refine g_isub (pc1 := 68) d_Tokens_cutDigits_67 rfl ?_
  refine g_iconst (pc1 := 69) (v := 4) d_Tokens_cutDigits_68 rfl (by decide) ?_
  refine g_icmp_le (pc1 := 72) (tgt := 76) d_Tokens_cutDigits_69 (by decide) rfl (fun c2 => ?_) (fun c2 => ?_)
  · replace h := itp h c2
    refine g_iconst (pc1 := 77) (v := 3) d_Tokens_cutDigits_76 rfl (by decide) ?_
    refine Wp.loc (lv' := [(4, .long v4), (6, .int v6)]) [3, 4] rfl ?_
    exact j_Tokens_cutDigits_77 hld  hQ  h
  · replace h := itn h c2
    refine g_iconst (pc1 := 73) (v := 1) d_Tokens_cutDigits_72 rfl (by decide) ?_
    refine g_goto (tgt := 77) d_Tokens_cutDigits_73 (by decide) ?_
    refine Wp.loc (lv' := [(4, .long v4), (6, .int v6)]) [3, 4] rfl ?_
    exact j_Tokens_cutDigits_77 hld  hQ  h
def B_Tokens_cutDigits_6 (v2 : Int32) (v3 : Int32) (M : gM) (L : gL) (K6 : Int64 → Int32 → Option (Int32 × gM × gL)) : Int64 → Int32 → Option (Int32 × gM × gL) := fun v4 v6 =>
  (if (M 1 1) ≤ v6 then J_Tokens_cutDigits_62 v2 v3 v4 v6 M L else bI (F_Tape_byteAt v6 M) (fun r7 => (if r7 < 48 then J_Tokens_cutDigits_62 v2 v3 v4 v6 M L else bI (F_Tape_byteAt v6 M) (fun r10 => (if 57 < r10 then J_Tokens_cutDigits_62 v2 v3 v4 v6 M L else bI (F_Tape_byteAt v6 M) (fun r13 => nmJ ((v4 * 10) + (((r13 - 48) : Int32).toInt64)) (fun x14 => nmI (v6 + 1) (fun x15 => K6 x14 x15))))))))
def H_Tokens_cutDigits_6 (v2 : Int32) (v3 : Int32) (M : gM) (L : gL) : Nat → Int64 → Int32 → Option (Int32 × gM × gL) := lpK (B_Tokens_cutDigits_6 v2 v3 M L) (fun _ _ => none)
set_option maxHeartbeats 4000000 in
set_option maxRecDepth 20000 in
theorem h_Tokens_cutDigits_6 {l : Launch} {ld : Nat} {Q : Option Value → gM → gL → gR → Prop} (hld : isLa ld)   {q : Int32 × gM × gL} {M : gM} {L : gL} (hQ : Q (some (.int q.1)) q.2.1 q.2.2 (rf ld))  {v2 : Int32} {v3 : Int32}  : ∀ (f : Nat) (v4 : Int64) (v6 : Int32), H_Tokens_cutDigits_6 v2 v3 M L f v4 v6 = some q → Wp l y_Tokens_cutDigits (0, 0, 447) 447 0 0 6 [(0, .ref 4), (1, .ref 1), (2, .int v2), (3, .int v3), (4, .long v4), (6, .int v6)] [] M L (rf ld) Q := by
  intro f
  induction f with
  | zero => intro v4 v6 h; cases h
  | succ f hK6 =>
    intro v4 v6 h
    replace h : B_Tokens_cutDigits_6 v2 v3 M L (H_Tokens_cutDigits_6 v2 v3 M L f) v4 v6 = some q := h
    unfold B_Tokens_cutDigits_6 at h
    refine g_iload (pc1 := 8) d_Tokens_cutDigits_6 rfl 5 rfl ?_
    refine g_aload_n (pc1 := 9) d_Tokens_cutDigits_8 rfl 1 rfl ?_
    refine g_geti (pc1 := 12) d_Tokens_cutDigits_9 rfl ⟨_, fo_Tokens_55⟩ sh_1 (by decide) ?_
    refine g_icmp_ge (pc1 := 15) (tgt := 62) d_Tokens_cutDigits_12 (by decide) rfl (fun c1 => ?_) (fun c1 => ?_)
    · replace h := itp h c1
      refine Wp.loc (lv' := [(0, .ref 4), (2, .int v2), (3, .int v3), (4, .long v4), (6, .int v6)]) [0, 2, 3, 4, 5] rfl ?_
      exact j_Tokens_cutDigits_62 hld  hQ  h
    · replace h := itn h c1
      refine g_aload_n (pc1 := 16) d_Tokens_cutDigits_15 rfl 1 rfl ?_
      refine g_iload (pc1 := 18) d_Tokens_cutDigits_16 rfl 5 rfl ?_
      refine g_callV0 (pc1 := 21) (As := [.int v6]) (rest := []) d_Tokens_cutDigits_18 rfl mo_Tokens_60 mi_Tape_byteAt mv_Tape_byteAt rfl sh_1 (by decide) (by decide) rfl rfl (Nat.le_of_ble_eq_true rfl) ?_
      obtain ⟨r7, hq6, h⟩ := bnd h
      refine f_Tape_byteAt hld  hq6 ?_
      dsimp only [psh]
      refine g_bipush (pc1 := 23) (v := 48) d_Tokens_cutDigits_21 rfl (by decide) ?_
      refine g_icmp_lt (pc1 := 26) (tgt := 62) d_Tokens_cutDigits_23 (by decide) rfl (fun c8 => ?_) (fun c8 => ?_)
      · replace h := itp h c8
        refine Wp.loc (lv' := [(0, .ref 4), (2, .int v2), (3, .int v3), (4, .long v4), (6, .int v6)]) [0, 2, 3, 4, 5] rfl ?_
        exact j_Tokens_cutDigits_62 hld  hQ  h
      · replace h := itn h c8
        refine g_aload_n (pc1 := 27) d_Tokens_cutDigits_26 rfl 1 rfl ?_
        refine g_iload (pc1 := 29) d_Tokens_cutDigits_27 rfl 5 rfl ?_
        refine g_callV0 (pc1 := 32) (As := [.int v6]) (rest := []) d_Tokens_cutDigits_29 rfl mo_Tokens_60 mi_Tape_byteAt mv_Tape_byteAt rfl sh_1 (by decide) (by decide) rfl rfl (Nat.le_of_ble_eq_true rfl) ?_
        obtain ⟨r10, hq9, h⟩ := bnd h
        refine f_Tape_byteAt hld  hq9 ?_
        dsimp only [psh]
        refine g_bipush (pc1 := 34) (v := 57) d_Tokens_cutDigits_32 rfl (by decide) ?_
        refine g_icmp_gt (pc1 := 37) (tgt := 62) d_Tokens_cutDigits_34 (by decide) rfl (fun c11 => ?_) (fun c11 => ?_)
        · replace h := itp h c11
          refine Wp.loc (lv' := [(0, .ref 4), (2, .int v2), (3, .int v3), (4, .long v4), (6, .int v6)]) [0, 2, 3, 4, 5] rfl ?_
          exact j_Tokens_cutDigits_62 hld  hQ  h
        · replace h := itn h c11
          refine g_lload (pc1 := 39) d_Tokens_cutDigits_37 rfl 4 rfl ?_
          refine g_ldc2 (pc1 := 42) (v := 10) d_Tokens_cutDigits_39 rfl co_Tokens_85 ?_
          refine g_lmul (pc1 := 43) d_Tokens_cutDigits_42 rfl ?_
          refine g_aload_n (pc1 := 44) d_Tokens_cutDigits_43 rfl 1 rfl ?_
          refine g_iload (pc1 := 46) d_Tokens_cutDigits_44 rfl 5 rfl ?_
          refine g_callV0 (pc1 := 49) (As := [.int v6]) (rest := [.long (v4 * 10)]) d_Tokens_cutDigits_46 rfl mo_Tokens_60 mi_Tape_byteAt mv_Tape_byteAt rfl sh_1 (by decide) (by decide) rfl rfl (Nat.le_of_ble_eq_true rfl) ?_
          obtain ⟨r13, hq12, h⟩ := bnd h
          refine f_Tape_byteAt hld  hq12 ?_
          dsimp only [psh]
          refine g_bipush (pc1 := 51) (v := 48) d_Tokens_cutDigits_49 rfl (by decide) ?_
          refine g_isub (pc1 := 52) d_Tokens_cutDigits_51 rfl ?_
          refine g_i2l (pc1 := 53) d_Tokens_cutDigits_52 rfl ?_
          refine g_ladd (pc1 := 54) d_Tokens_cutDigits_53 rfl ?_
          refine Wp.lJ h (fun x14 h => ?_)
          refine g_lstore (pc1 := 56) (lv' := [(0, .ref 4), (1, .ref 1), (2, .int v2), (3, .int v3), (4, .long x14), (6, .int v6)]) d_Tokens_cutDigits_54 rfl (by decide) [1, 2, 3, 4, 0, 5] rfl ?_
          obtain ⟨x15, ex15, h⟩ := ltI h
          refine g_iinc (pc1 := 59) (v := x15) (lv' := [(0, .ref 4), (1, .ref 1), (2, .int v2), (3, .int v3), (4, .long x14), (6, .int x15)]) d_Tokens_cutDigits_56 rfl 5 rfl (by rw [ex15]; rfl) (by decide) [1, 2, 3, 4, 5, 0] rfl ?_
          refine g_goto (tgt := 6) d_Tokens_cutDigits_59 (by decide) ?_
          exact hK6 x14 x15 h
def F_Tokens_cutDigits (p2 : Int32) (p3 : Int32) (M : gM) (L : gL) : Option (Int32 × gM × gL) :=
  H_Tokens_cutDigits_6 p2 p3 M L FU 0 p2
set_option maxHeartbeats 4000000 in
set_option maxRecDepth 20000 in
theorem f_Tokens_cutDigits {l : Launch} {ld : Nat} {M : gM} {L : gL} {Q : Option Value → gM → gL → gR → Prop} (hld : isLa ld) {p2 : Int32} {p3 : Int32}  {q : Int32 × gM × gL} (h : F_Tokens_cutDigits p2 p3 M L = some q) (hQ : Q (some (.int q.1)) q.2.1 q.2.2 (rf ld)) : Tm l y_Tokens_cutDigits (0, 0, 447) 447 [.ref 4, .ref 1, .int p2, .int p3] M L (rf ld) Q := by
  refine Tm.of (by decide) (Nat.le_of_ble_eq_true rfl) ?_
  show Wp l y_Tokens_cutDigits (0, 0, 447) 447 0 0 0 [(0, .ref 4), (1, .ref 1), (2, .int p2), (3, .int p3)] [] M L (rf ld) Q
  unfold F_Tokens_cutDigits at h
  refine g_lconst (pc1 := 1) (v := 0) d_Tokens_cutDigits_0 rfl (by decide) ?_
  refine g_lstore (pc1 := 3) (lv' := [(0, .ref 4), (1, .ref 1), (2, .int p2), (3, .int p3), (4, .long 0)]) d_Tokens_cutDigits_1 rfl (by decide) [1, 2, 3, 4, 0] rfl ?_
  refine g_iload_n (pc1 := 4) d_Tokens_cutDigits_3 rfl 2 rfl ?_
  refine g_istore (pc1 := 6) (lv' := [(0, .ref 4), (1, .ref 1), (2, .int p2), (3, .int p3), (4, .long 0), (6, .int p2)]) d_Tokens_cutDigits_4 rfl (by decide) [1, 2, 3, 4, 5, 0] rfl ?_
  exact h_Tokens_cutDigits_6 hld  hQ  _ 0 p2 h

def J_Tokens_cutLetters_77 (v4 : Int64) (v6 : Int32) (s1 : Int32) (s2 : Int32) (M : gM) (L : gL) : Option (Int32 × gM × gL) :=
  bI2 (F_Tokens_set s1 s2 v4 M L) (fun M6 L7 => some (v6, M6, L7))
set_option maxHeartbeats 4000000 in
set_option maxRecDepth 20000 in
theorem j_Tokens_cutLetters_77 {l : Launch} {ld : Nat} {Q : Option Value → gM → gL → gR → Prop} (hld : isLa ld)   {q : Int32 × gM × gL} {M : gM} {L : gL} (hQ : Q (some (.int q.1)) q.2.1 q.2.2 (rf ld))  {v4 : Int64} {v6 : Int32} {s1 : Int32} {s2 : Int32}  (h : J_Tokens_cutLetters_77 v4 v6 s1 s2 M L = some q) : Wp l y_Tokens_cutLetters (0, 0, 447) 447 0 0 77 [(4, .long v4), (6, .int v6)] [.int s2, .int s1, .ref 4] M L (rf ld) Q := by
  unfold J_Tokens_cutLetters_77 at h
  refine g_lload (pc1 := 79) d_Tokens_cutLetters_77 rfl 0 rfl ?_
  refine g_callV0 (pc1 := 82) (As := [.int s1, .int s2, .long v4]) (rest := []) d_Tokens_cutLetters_79 rfl mo_Tokens_74 mi_Tokens_set mv_Tokens_set rfl sh_4 (by decide) (by decide) rfl rfl (Nat.le_of_ble_eq_true rfl) ?_
  obtain ⟨M6, L7, hq5, h⟩ := bnd2 h
  refine f_Tokens_set hld  hq5 ?_
  dsimp only [psh]
  refine g_iload (pc1 := 84) d_Tokens_cutLetters_82 rfl 1 rfl ?_
  refine g_ireturn (Or.inl rfl) d_Tokens_cutLetters_84 rfl ?_
  cases h; exact hQ
def J_Tokens_cutLetters_56 (v2 : Int32) (v3 : Int32) (v4 : Int64) (v6 : Int32) (M : gM) (L : gL) : Option (Int32 × gM × gL) :=
  (if (v6 - v2) ≤ 8 then bI (F_Tokens_kindOf v4 L) (fun r4 => J_Tokens_cutLetters_77 v4 v6 v3 r4 M L) else J_Tokens_cutLetters_77 v4 v6 v3 1 M L)
set_option maxHeartbeats 4000000 in
set_option maxRecDepth 20000 in
theorem j_Tokens_cutLetters_56 {l : Launch} {ld : Nat} {Q : Option Value → gM → gL → gR → Prop} (hld : isLa ld)   {q : Int32 × gM × gL} {M : gM} {L : gL} (hQ : Q (some (.int q.1)) q.2.1 q.2.2 (rf ld))  {v2 : Int32} {v3 : Int32} {v4 : Int64} {v6 : Int32}  (h : J_Tokens_cutLetters_56 v2 v3 v4 v6 M L = some q) : Wp l y_Tokens_cutLetters (0, 0, 447) 447 0 0 56 [(0, .ref 4), (2, .int v2), (3, .int v3), (4, .long v4), (6, .int v6)] [] M L (rf ld) Q := by
  unfold J_Tokens_cutLetters_56 at h
  refine g_aload_n (pc1 := 57) d_Tokens_cutLetters_56 rfl 0 rfl ?_
  refine g_iload_n (pc1 := 58) d_Tokens_cutLetters_57 rfl 2 rfl ?_
  refine g_iload (pc1 := 60) d_Tokens_cutLetters_58 rfl 4 rfl ?_
  refine g_iload_n (pc1 := 61) d_Tokens_cutLetters_60 rfl 1 rfl ?_
  refine g_isub (pc1 := 62) d_Tokens_cutLetters_61 rfl ?_
  refine g_bipush (pc1 := 64) (v := 8) d_Tokens_cutLetters_62 rfl (by decide) ?_
  refine g_icmp_le (pc1 := 67) (tgt := 71) d_Tokens_cutLetters_64 (by decide) rfl (fun c2 => ?_) (fun c2 => ?_)
  · replace h := itp h c2
    refine g_aload_n (pc1 := 72) d_Tokens_cutLetters_71 rfl 0 rfl ?_
    refine g_lload (pc1 := 74) d_Tokens_cutLetters_72 rfl 3 rfl ?_
    refine g_callV0 (pc1 := 77) (As := [.long v4]) (rest := [.int v3, .ref 4]) d_Tokens_cutLetters_74 rfl mo_Tokens_81 mi_Tokens_kindOf mv_Tokens_kindOf rfl sh_4 (by decide) (by decide) rfl rfl (Nat.le_of_ble_eq_true rfl) ?_
    obtain ⟨r4, hq3, h⟩ := bnd h
    refine f_Tokens_kindOf hld  hq3 ?_
    dsimp only [psh]
    refine Wp.loc (lv' := [(4, .long v4), (6, .int v6)]) [3, 4] rfl ?_
    exact j_Tokens_cutLetters_77 hld  hQ  h
  · replace h := itn h c2
    refine g_iconst (pc1 := 68) (v := 1) d_Tokens_cutLetters_67 rfl (by decide) ?_
    refine g_goto (tgt := 77) d_Tokens_cutLetters_68 (by decide) ?_
    refine Wp.loc (lv' := [(4, .long v4), (6, .int v6)]) [3, 4] rfl ?_
    exact j_Tokens_cutLetters_77 hld  hQ  h
def B_Tokens_cutLetters_6 (v2 : Int32) (v3 : Int32) (M : gM) (L : gL) (K6 : Int64 → Int32 → Option (Int32 × gM × gL)) : Int64 → Int32 → Option (Int32 × gM × gL) := fun v4 v6 =>
  (if (M 1 1) ≤ v6 then J_Tokens_cutLetters_56 v2 v3 v4 v6 M L else bI (F_Tape_byteAt v6 M) (fun r9 => (if r9 < 97 then J_Tokens_cutLetters_56 v2 v3 v4 v6 M L else bI (F_Tape_byteAt v6 M) (fun r12 => (if 122 < r12 then J_Tokens_cutLetters_56 v2 v3 v4 v6 M L else bI (F_Tape_byteAt v6 M) (fun r15 => bI (F_Tokens_withLetter v4 r15) (fun r17 => nmI (v6 + 1) (fun x18 => K6 r17 x18))))))))
def H_Tokens_cutLetters_6 (v2 : Int32) (v3 : Int32) (M : gM) (L : gL) : Nat → Int64 → Int32 → Option (Int32 × gM × gL) := lpK (B_Tokens_cutLetters_6 v2 v3 M L) (fun _ _ => none)
set_option maxHeartbeats 4000000 in
set_option maxRecDepth 20000 in
theorem h_Tokens_cutLetters_6 {l : Launch} {ld : Nat} {Q : Option Value → gM → gL → gR → Prop} (hld : isLa ld)   {q : Int32 × gM × gL} {M : gM} {L : gL} (hQ : Q (some (.int q.1)) q.2.1 q.2.2 (rf ld))  {v2 : Int32} {v3 : Int32}  : ∀ (f : Nat) (v4 : Int64) (v6 : Int32), H_Tokens_cutLetters_6 v2 v3 M L f v4 v6 = some q → Wp l y_Tokens_cutLetters (0, 0, 447) 447 0 0 6 [(0, .ref 4), (1, .ref 1), (2, .int v2), (3, .int v3), (4, .long v4), (6, .int v6)] [] M L (rf ld) Q := by
  intro f
  induction f with
  | zero => intro v4 v6 h; cases h
  | succ f hK6 =>
    intro v4 v6 h
    replace h : B_Tokens_cutLetters_6 v2 v3 M L (H_Tokens_cutLetters_6 v2 v3 M L f) v4 v6 = some q := h
    unfold B_Tokens_cutLetters_6 at h
    refine g_iload (pc1 := 8) d_Tokens_cutLetters_6 rfl 5 rfl ?_
    refine g_aload_n (pc1 := 9) d_Tokens_cutLetters_8 rfl 1 rfl ?_
    refine g_geti (pc1 := 12) d_Tokens_cutLetters_9 rfl ⟨_, fo_Tokens_55⟩ sh_1 (by decide) ?_
    refine g_icmp_ge (pc1 := 15) (tgt := 56) d_Tokens_cutLetters_12 (by decide) rfl (fun c1 => ?_) (fun c1 => ?_)
    · replace h := itp h c1
      refine Wp.loc (lv' := [(0, .ref 4), (2, .int v2), (3, .int v3), (4, .long v4), (6, .int v6)]) [0, 2, 3, 4, 5] rfl ?_
      exact j_Tokens_cutLetters_56 hld  hQ  h
    · replace h := itn h c1
      refine g_aload_n (pc1 := 16) d_Tokens_cutLetters_15 rfl 1 rfl ?_
      refine g_iload (pc1 := 18) d_Tokens_cutLetters_16 rfl 5 rfl ?_
      refine g_callV0 (pc1 := 21) (As := [.int v6]) (rest := []) d_Tokens_cutLetters_18 rfl mo_Tokens_60 mi_Tape_byteAt mv_Tape_byteAt rfl sh_1 (by decide) (by decide) rfl rfl (Nat.le_of_ble_eq_true rfl) ?_
      obtain ⟨r9, hq8, h⟩ := bnd h
      refine f_Tape_byteAt hld  hq8 ?_
      dsimp only [psh]
      refine g_bipush (pc1 := 23) (v := 97) d_Tokens_cutLetters_21 rfl (by decide) ?_
      refine g_icmp_lt (pc1 := 26) (tgt := 56) d_Tokens_cutLetters_23 (by decide) rfl (fun c10 => ?_) (fun c10 => ?_)
      · replace h := itp h c10
        refine Wp.loc (lv' := [(0, .ref 4), (2, .int v2), (3, .int v3), (4, .long v4), (6, .int v6)]) [0, 2, 3, 4, 5] rfl ?_
        exact j_Tokens_cutLetters_56 hld  hQ  h
      · replace h := itn h c10
        refine g_aload_n (pc1 := 27) d_Tokens_cutLetters_26 rfl 1 rfl ?_
        refine g_iload (pc1 := 29) d_Tokens_cutLetters_27 rfl 5 rfl ?_
        refine g_callV0 (pc1 := 32) (As := [.int v6]) (rest := []) d_Tokens_cutLetters_29 rfl mo_Tokens_60 mi_Tape_byteAt mv_Tape_byteAt rfl sh_1 (by decide) (by decide) rfl rfl (Nat.le_of_ble_eq_true rfl) ?_
        obtain ⟨r12, hq11, h⟩ := bnd h
        refine f_Tape_byteAt hld  hq11 ?_
        dsimp only [psh]
        refine g_bipush (pc1 := 34) (v := 122) d_Tokens_cutLetters_32 rfl (by decide) ?_
        refine g_icmp_gt (pc1 := 37) (tgt := 56) d_Tokens_cutLetters_34 (by decide) rfl (fun c13 => ?_) (fun c13 => ?_)
        · replace h := itp h c13
          refine Wp.loc (lv' := [(0, .ref 4), (2, .int v2), (3, .int v3), (4, .long v4), (6, .int v6)]) [0, 2, 3, 4, 5] rfl ?_
          exact j_Tokens_cutLetters_56 hld  hQ  h
        · replace h := itn h c13
          refine g_lload (pc1 := 39) d_Tokens_cutLetters_37 rfl 4 rfl ?_
          refine g_aload_n (pc1 := 40) d_Tokens_cutLetters_39 rfl 1 rfl ?_
          refine g_iload (pc1 := 42) d_Tokens_cutLetters_40 rfl 5 rfl ?_
          refine g_callV0 (pc1 := 45) (As := [.int v6]) (rest := [.long v4]) d_Tokens_cutLetters_42 rfl mo_Tokens_60 mi_Tape_byteAt mv_Tape_byteAt rfl sh_1 (by decide) (by decide) rfl rfl (Nat.le_of_ble_eq_true rfl) ?_
          obtain ⟨r15, hq14, h⟩ := bnd h
          refine f_Tape_byteAt hld  hq14 ?_
          dsimp only [psh]
          refine g_callS0 (pc1 := 48) (As := [.long v4, .int r15]) (rest := []) d_Tokens_cutLetters_45 rfl mo_Tokens_37 ms_Tokens_withLetter (by decide) rfl rfl (Nat.le_of_ble_eq_true rfl) ?_
          obtain ⟨r17, hq16, h⟩ := bnd h
          refine f_Tokens_withLetter hld  hq16 ?_
          dsimp only [psh]
          refine g_lstore (pc1 := 50) (lv' := [(0, .ref 4), (1, .ref 1), (2, .int v2), (3, .int v3), (4, .long r17), (6, .int v6)]) d_Tokens_cutLetters_48 rfl (by decide) [1, 2, 3, 4, 0, 5] rfl ?_
          obtain ⟨x18, ex18, h⟩ := ltI h
          refine g_iinc (pc1 := 53) (v := x18) (lv' := [(0, .ref 4), (1, .ref 1), (2, .int v2), (3, .int v3), (4, .long r17), (6, .int x18)]) d_Tokens_cutLetters_50 rfl 5 rfl (by rw [ex18]; rfl) (by decide) [1, 2, 3, 4, 5, 0] rfl ?_
          refine g_goto (tgt := 6) d_Tokens_cutLetters_53 (by decide) ?_
          exact hK6 r17 x18 h
def F_Tokens_cutLetters (p2 : Int32) (p3 : Int32) (M : gM) (L : gL) : Option (Int32 × gM × gL) :=
  H_Tokens_cutLetters_6 p2 p3 M L FU 0 p2
set_option maxHeartbeats 4000000 in
set_option maxRecDepth 20000 in
theorem f_Tokens_cutLetters {l : Launch} {ld : Nat} {M : gM} {L : gL} {Q : Option Value → gM → gL → gR → Prop} (hld : isLa ld) {p2 : Int32} {p3 : Int32}  {q : Int32 × gM × gL} (h : F_Tokens_cutLetters p2 p3 M L = some q) (hQ : Q (some (.int q.1)) q.2.1 q.2.2 (rf ld)) : Tm l y_Tokens_cutLetters (0, 0, 447) 447 [.ref 4, .ref 1, .int p2, .int p3] M L (rf ld) Q := by
  refine Tm.of (by decide) (Nat.le_of_ble_eq_true rfl) ?_
  show Wp l y_Tokens_cutLetters (0, 0, 447) 447 0 0 0 [(0, .ref 4), (1, .ref 1), (2, .int p2), (3, .int p3)] [] M L (rf ld) Q
  unfold F_Tokens_cutLetters at h
  refine g_lconst (pc1 := 1) (v := 0) d_Tokens_cutLetters_0 rfl (by decide) ?_
  refine g_lstore (pc1 := 3) (lv' := [(0, .ref 4), (1, .ref 1), (2, .int p2), (3, .int p3), (4, .long 0)]) d_Tokens_cutLetters_1 rfl (by decide) [1, 2, 3, 4, 0] rfl ?_
  refine g_iload_n (pc1 := 4) d_Tokens_cutLetters_3 rfl 2 rfl ?_
  refine g_istore (pc1 := 6) (lv' := [(0, .ref 4), (1, .ref 1), (2, .int p2), (3, .int p3), (4, .long 0), (6, .int p2)]) d_Tokens_cutLetters_4 rfl (by decide) [1, 2, 3, 4, 5, 0] rfl ?_
  exact h_Tokens_cutLetters_6 hld  hQ  _ 0 p2 h

def F_Told_add (p1 : Int32) (p2 : Int32) (p3 : Int32) (M : gM) : Option (Int32 × gM) :=
  (if (M 383 3) < 20 then bI (F_Main_put 384 20 (M 383 3) p1 M) (fun M3 => bI (F_Main_put 385 20 (M3 383 3) p2 M3) (fun M5 => bI (F_Main_put 386 20 (M5 383 3) p3 M5) (fun M7 => nmM (uM M7 383 3 ((M7 383 3) + 1)) (fun M8 => some (((M8 383 3) - 1), M8))))) else some ((-1), M))
set_option maxHeartbeats 4000000 in
set_option maxRecDepth 20000 in
theorem f_Told_add {l : Launch} {ld : Nat} {M : gM} {L : gL} {Q : Option Value → gM → gL → gR → Prop} (hld : isLa ld) {p1 : Int32} {p2 : Int32} {p3 : Int32}  {q : Int32 × gM} (h : F_Told_add p1 p2 p3 M = some q) (hQ : Q (some (.int q.1)) q.2 L (rf ld)) : Tm l y_Told_add (0, 0, 447) 447 [.ref 383, .int p1, .int p2, .int p3] M L (rf ld) Q := by
  refine Tm.of (by decide) (Nat.le_of_ble_eq_true rfl) ?_
  show Wp l y_Told_add (0, 0, 447) 447 0 0 0 [(0, .ref 383), (1, .int p1), (2, .int p2), (3, .int p3)] [] M L (rf ld) Q
  unfold F_Told_add at h
  refine g_aload_n (pc1 := 1) d_Told_add_0 rfl 0 rfl ?_
  refine g_geti (pc1 := 4) d_Told_add_1 rfl ⟨_, fo_Told_33⟩ sh_383 (by decide) ?_
  refine g_bipush (pc1 := 6) (v := 20) d_Told_add_4 rfl (by decide) ?_
  refine g_icmp_lt (pc1 := 9) (tgt := 11) d_Told_add_6 (by decide) rfl (fun c1 => ?_) (fun c1 => ?_)
  · replace h := itp h c1
    refine g_aload_n (pc1 := 12) d_Told_add_11 rfl 0 rfl ?_
    refine g_getr (pc1 := 15) d_Told_add_12 rfl ⟨_, fo_Told_11⟩ sh_383 (by decide) (rf_383_0 ld) ?_
    refine g_aload_n (pc1 := 16) d_Told_add_15 rfl 0 rfl ?_
    refine g_geti (pc1 := 19) d_Told_add_16 rfl ⟨_, fo_Told_33⟩ sh_383 (by decide) ?_
    refine g_iload_n (pc1 := 20) d_Told_add_19 rfl 1 rfl ?_
    refine g_callS0 (pc1 := 23) (As := [.ref 384, .int (M 383 3), .int p1]) (rest := []) d_Told_add_20 rfl mo_Told_37 ms_Main_put (by decide) rfl rfl (Nat.le_of_ble_eq_true rfl) ?_
    obtain ⟨M3, hq2, h⟩ := bnd h
    refine f_Main_put hld sh_384 (by decide) (by decide) hq2 ?_
    dsimp only [psh]
    refine g_aload_n (pc1 := 24) d_Told_add_23 rfl 0 rfl ?_
    refine g_getr (pc1 := 27) d_Told_add_24 rfl ⟨_, fo_Told_15⟩ sh_383 (by decide) (rf_383_1 ld) ?_
    refine g_aload_n (pc1 := 28) d_Told_add_27 rfl 0 rfl ?_
    refine g_geti (pc1 := 31) d_Told_add_28 rfl ⟨_, fo_Told_33⟩ sh_383 (by decide) ?_
    refine g_iload_n (pc1 := 32) d_Told_add_31 rfl 2 rfl ?_
    refine g_callS0 (pc1 := 35) (As := [.ref 385, .int (M3 383 3), .int p2]) (rest := []) d_Told_add_32 rfl mo_Told_37 ms_Main_put (by decide) rfl rfl (Nat.le_of_ble_eq_true rfl) ?_
    obtain ⟨M5, hq4, h⟩ := bnd h
    refine f_Main_put hld sh_385 (by decide) (by decide) hq4 ?_
    dsimp only [psh]
    refine g_aload_n (pc1 := 36) d_Told_add_35 rfl 0 rfl ?_
    refine g_getr (pc1 := 39) d_Told_add_36 rfl ⟨_, fo_Told_18⟩ sh_383 (by decide) (rf_383_2 ld) ?_
    refine g_aload_n (pc1 := 40) d_Told_add_39 rfl 0 rfl ?_
    refine g_geti (pc1 := 43) d_Told_add_40 rfl ⟨_, fo_Told_33⟩ sh_383 (by decide) ?_
    refine g_iload_n (pc1 := 44) d_Told_add_43 rfl 3 rfl ?_
    refine g_callS0 (pc1 := 47) (As := [.ref 386, .int (M5 383 3), .int p3]) (rest := []) d_Told_add_44 rfl mo_Told_37 ms_Main_put (by decide) rfl rfl (Nat.le_of_ble_eq_true rfl) ?_
    obtain ⟨M7, hq6, h⟩ := bnd h
    refine f_Main_put hld sh_386 (by decide) (by decide) hq6 ?_
    dsimp only [psh]
    refine g_aload_n (pc1 := 48) d_Told_add_47 rfl 0 rfl ?_
    refine g_dup (pc1 := 49) d_Told_add_48 rfl rfl ?_
    refine g_geti (pc1 := 52) d_Told_add_49 rfl ⟨_, fo_Told_33⟩ sh_383 (by decide) ?_
    refine g_iconst (pc1 := 53) (v := 1) d_Told_add_52 rfl (by decide) ?_
    refine g_iadd (pc1 := 54) d_Told_add_53 rfl ?_
    refine g_puti (pc1 := 57) d_Told_add_54 rfl fo_Told_33 (po_9_3 _) sh_383 (by decide) ?_
    refine Wp.lM h (fun M8 h => ?_)
    refine g_aload_n (pc1 := 58) d_Told_add_57 rfl 0 rfl ?_
    refine g_geti (pc1 := 61) d_Told_add_58 rfl ⟨_, fo_Told_33⟩ sh_383 (by decide) ?_
    refine g_iconst (pc1 := 62) (v := 1) d_Told_add_61 rfl (by decide) ?_
    refine g_isub (pc1 := 63) d_Told_add_62 rfl ?_
    refine g_ireturn (Or.inl rfl) d_Told_add_63 rfl ?_
    cases h; exact hQ
  · replace h := itn h c1
    refine g_iconst (pc1 := 10) (v := (-1)) d_Told_add_9 rfl (by decide) ?_
    refine g_ireturn (Or.inl rfl) d_Told_add_10 rfl ?_
    cases h; exact hQ

def J_Told_onlyDish_38 (M : gM) : Option (Int32) :=
  (if (M 383 7) ≤ 0 then some (-2) else bI (F_Main_at 387 65 0 M) (fun r4 => some r4))
set_option maxHeartbeats 4000000 in
set_option maxRecDepth 20000 in
theorem j_Told_onlyDish_38 {l : Launch} {ld : Nat} {Q : Option Value → gM → gL → gR → Prop} (hld : isLa ld)   {q : Int32} {M : gM} {L : gL} (hQ : Q (some (.int q)) M L (rf ld))    (h : J_Told_onlyDish_38 M = some q) : Wp l y_Told_onlyDish (0, 0, 447) 447 0 0 38 [(0, .ref 383)] [] M L (rf ld) Q := by
  unfold J_Told_onlyDish_38 at h
  refine g_aload_n (pc1 := 39) d_Told_onlyDish_38 rfl 0 rfl ?_
  refine g_geti (pc1 := 42) d_Told_onlyDish_39 rfl ⟨_, fo_Told_41⟩ sh_383 (by decide) ?_
  refine g_if_le (pc1 := 45) (tgt := 56) d_Told_onlyDish_42 (by decide) rfl (fun c2 => ?_) (fun c2 => ?_)
  · replace h := itp h c2
    refine g_bipush (pc1 := 58) (v := (-2)) d_Told_onlyDish_56 rfl (by decide) ?_
    refine g_ireturn (Or.inl rfl) d_Told_onlyDish_58 rfl ?_
    cases h; exact hQ
  · replace h := itn h c2
    refine g_aload_n (pc1 := 46) d_Told_onlyDish_45 rfl 0 rfl ?_
    refine g_getr (pc1 := 49) d_Told_onlyDish_46 rfl ⟨_, fo_Told_21⟩ sh_383 (by decide) (rf_383_4 ld) ?_
    refine g_iconst (pc1 := 50) (v := 0) d_Told_onlyDish_49 rfl (by decide) ?_
    refine g_callS0 (pc1 := 53) (As := [.ref 387, .int 0]) (rest := []) d_Told_onlyDish_50 rfl mo_Told_73 ms_Main_at (by decide) rfl rfl (Nat.le_of_ble_eq_true rfl) ?_
    obtain ⟨r4, hq3, h⟩ := bnd h
    refine f_Main_at hld sh_387 (by decide) (by decide) hq3 ?_
    dsimp only [psh]
    refine g_goto (tgt := 58) d_Told_onlyDish_53 (by decide) ?_
    refine g_ireturn (Or.inl rfl) d_Told_onlyDish_58 rfl ?_
    cases h; exact hQ
def B_Told_onlyDish_2 (M : gM) (K2 : Int32 → Option (Int32)) : Int32 → Option (Int32) := fun v1 =>
  (if (M 383 7) ≤ v1 then J_Told_onlyDish_38 M else bI (F_Main_at 387 65 v1 M) (fun r6 => bI (F_Main_at 387 65 0 M) (fun r8 => (if r6 = r8 then nmI (v1 + 1) (fun x10 => K2 x10) else some (-2)))))
def H_Told_onlyDish_2 (M : gM) : Nat → Int32 → Option (Int32) := lpK (B_Told_onlyDish_2 M) (fun _ => none)
set_option maxHeartbeats 4000000 in
set_option maxRecDepth 20000 in
theorem h_Told_onlyDish_2 {l : Launch} {ld : Nat} {Q : Option Value → gM → gL → gR → Prop} (hld : isLa ld)   {q : Int32} {M : gM} {L : gL} (hQ : Q (some (.int q)) M L (rf ld))    : ∀ (f : Nat) (v1 : Int32), H_Told_onlyDish_2 M f v1 = some q → Wp l y_Told_onlyDish (0, 0, 447) 447 0 0 2 [(0, .ref 383), (1, .int v1)] [] M L (rf ld) Q := by
  intro f
  induction f with
  | zero => intro v1 h; cases h
  | succ f hK2 =>
    intro v1 h
    replace h : B_Told_onlyDish_2 M (H_Told_onlyDish_2 M f) v1 = some q := h
    unfold B_Told_onlyDish_2 at h
    refine g_iload_n (pc1 := 3) d_Told_onlyDish_2 rfl 1 rfl ?_
    refine g_aload_n (pc1 := 4) d_Told_onlyDish_3 rfl 0 rfl ?_
    refine g_geti (pc1 := 7) d_Told_onlyDish_4 rfl ⟨_, fo_Told_41⟩ sh_383 (by decide) ?_
    refine g_icmp_ge (pc1 := 10) (tgt := 38) d_Told_onlyDish_7 (by decide) rfl (fun c1 => ?_) (fun c1 => ?_)
    · replace h := itp h c1
      refine Wp.loc (lv' := [(0, .ref 383)]) [0] rfl ?_
      exact j_Told_onlyDish_38 hld  hQ  h
    · replace h := itn h c1
      refine g_aload_n (pc1 := 11) d_Told_onlyDish_10 rfl 0 rfl ?_
      refine g_getr (pc1 := 14) d_Told_onlyDish_11 rfl ⟨_, fo_Told_21⟩ sh_383 (by decide) (rf_383_4 ld) ?_
      refine g_iload_n (pc1 := 15) d_Told_onlyDish_14 rfl 1 rfl ?_
      refine g_callS0 (pc1 := 18) (As := [.ref 387, .int v1]) (rest := []) d_Told_onlyDish_15 rfl mo_Told_73 ms_Main_at (by decide) rfl rfl (Nat.le_of_ble_eq_true rfl) ?_
      obtain ⟨r6, hq5, h⟩ := bnd h
      refine f_Main_at hld sh_387 (by decide) (by decide) hq5 ?_
      dsimp only [psh]
      refine g_aload_n (pc1 := 19) d_Told_onlyDish_18 rfl 0 rfl ?_
      refine g_getr (pc1 := 22) d_Told_onlyDish_19 rfl ⟨_, fo_Told_21⟩ sh_383 (by decide) (rf_383_4 ld) ?_
      refine g_iconst (pc1 := 23) (v := 0) d_Told_onlyDish_22 rfl (by decide) ?_
      refine g_callS0 (pc1 := 26) (As := [.ref 387, .int 0]) (rest := [.int r6]) d_Told_onlyDish_23 rfl mo_Told_73 ms_Main_at (by decide) rfl rfl (Nat.le_of_ble_eq_true rfl) ?_
      obtain ⟨r8, hq7, h⟩ := bnd h
      refine f_Main_at hld sh_387 (by decide) (by decide) hq7 ?_
      dsimp only [psh]
      refine g_icmp_eq (pc1 := 29) (tgt := 32) d_Told_onlyDish_26 (by decide) rfl (fun c9 => ?_) (fun c9 => ?_)
      · replace h := itp h c9
        obtain ⟨x10, ex10, h⟩ := ltI h
        refine g_iinc (pc1 := 35) (v := x10) (lv' := [(0, .ref 383), (1, .int x10)]) d_Told_onlyDish_32 rfl 1 rfl (by rw [ex10]; rfl) (by decide) [1, 0] rfl ?_
        refine g_goto (tgt := 2) d_Told_onlyDish_35 (by decide) ?_
        exact hK2 x10 h
      · replace h := itn h c9
        refine g_bipush (pc1 := 31) (v := (-2)) d_Told_onlyDish_29 rfl (by decide) ?_
        refine g_ireturn (Or.inl rfl) d_Told_onlyDish_31 rfl ?_
        cases h; exact hQ
def F_Told_onlyDish (M : gM) : Option (Int32) :=
  H_Told_onlyDish_2 M FU 1
set_option maxHeartbeats 4000000 in
set_option maxRecDepth 20000 in
theorem f_Told_onlyDish {l : Launch} {ld : Nat} {M : gM} {L : gL} {Q : Option Value → gM → gL → gR → Prop} (hld : isLa ld)   {q : Int32} (h : F_Told_onlyDish M = some q) (hQ : Q (some (.int q)) M L (rf ld)) : Tm l y_Told_onlyDish (0, 0, 447) 447 [.ref 383] M L (rf ld) Q := by
  refine Tm.of (by decide) (Nat.le_of_ble_eq_true rfl) ?_
  show Wp l y_Told_onlyDish (0, 0, 447) 447 0 0 0 [(0, .ref 383)] [] M L (rf ld) Q
  unfold F_Told_onlyDish at h
  refine g_iconst (pc1 := 1) (v := 1) d_Told_onlyDish_0 rfl (by decide) ?_
  refine g_istore_n (pc1 := 2) (lv' := [(0, .ref 383), (1, .int 1)]) d_Told_onlyDish_1 rfl rfl (by decide) [1, 0] rfl ?_
  exact h_Told_onlyDish_2 hld  hQ  _ 1 h

def F_Main_amount (ld : Nat) (p1 : Int32) (p2 : Int32) (M : gM) : Option (Int32) :=
  bI (F_Main_isOne p1 (M ld 1)) (fun r2 => (if r2 = 0 then some (-1) else bI (F_Main_isOne p2 (M ld 0)) (fun r5 => (if r5 = 0 then some (-1) else bI (F_Land_inDish ld p1 p2 M) (fun r8 => some r8)))))
set_option maxHeartbeats 4000000 in
set_option maxRecDepth 20000 in
theorem f_Main_amount {l : Launch} {ld : Nat} {M : gM} {L : gL} {Q : Option Value → gM → gL → gR → Prop} (hld : isLa ld) {p1 : Int32} {p2 : Int32}  {q : Int32} (h : F_Main_amount ld p1 p2 M = some q) (hQ : Q (some (.int q)) M L (rf ld)) : Tm l y_Main_amount (0, 0, 447) 447 [.ref 0, .int p1, .int p2] M L (rf ld) Q := by
  refine Tm.of (by decide) (Nat.le_of_ble_eq_true rfl) ?_
  show Wp l y_Main_amount (0, 0, 447) 447 0 0 0 [(0, .ref 0), (1, .int p1), (2, .int p2)] [] M L (rf ld) Q
  unfold F_Main_amount at h
  refine g_iload_n (pc1 := 1) d_Main_amount_0 rfl 1 rfl ?_
  refine g_aload_n (pc1 := 2) d_Main_amount_1 rfl 0 rfl ?_
  refine g_getr (pc1 := 5) d_Main_amount_2 rfl ⟨_, fo_Main_26⟩ sh_0 (by decide) (rf_0_2 ld) ?_
  refine g_geti (pc1 := 8) d_Main_amount_5 rfl ⟨_, fo_Main_131⟩ (shLa_0 hld) (ltLa_0 hld) ?_
  refine g_callS0 (pc1 := 11) (As := [.int p1, .int (M ld 1)]) (rest := []) d_Main_amount_8 rfl mo_Main_112 ms_Main_isOne (by decide) rfl rfl (Nat.le_of_ble_eq_true rfl) ?_
  obtain ⟨r2, hq1, h⟩ := bnd h
  refine f_Main_isOne hld  hq1 ?_
  dsimp only [psh]
  refine g_if_eq (pc1 := 14) (tgt := 28) d_Main_amount_11 (by decide) rfl (fun c3 => ?_) (fun c3 => ?_)
  · replace h := itp h c3
    refine g_iconst (pc1 := 29) (v := (-1)) d_Main_amount_28 rfl (by decide) ?_
    refine g_ireturn (Or.inl rfl) d_Main_amount_29 rfl ?_
    cases h; exact hQ
  · replace h := itn h c3
    refine g_iload_n (pc1 := 15) d_Main_amount_14 rfl 2 rfl ?_
    refine g_aload_n (pc1 := 16) d_Main_amount_15 rfl 0 rfl ?_
    refine g_getr (pc1 := 19) d_Main_amount_16 rfl ⟨_, fo_Main_26⟩ sh_0 (by decide) (rf_0_2 ld) ?_
    refine g_geti (pc1 := 22) d_Main_amount_19 rfl ⟨_, fo_Main_109⟩ (shLa_0 hld) (ltLa_0 hld) ?_
    refine g_callS0 (pc1 := 25) (As := [.int p2, .int (M ld 0)]) (rest := []) d_Main_amount_22 rfl mo_Main_112 ms_Main_isOne (by decide) rfl rfl (Nat.le_of_ble_eq_true rfl) ?_
    obtain ⟨r5, hq4, h⟩ := bnd h
    refine f_Main_isOne hld  hq4 ?_
    dsimp only [psh]
    refine g_if_ne (pc1 := 28) (tgt := 30) d_Main_amount_25 (by decide) rfl (fun c6 => ?_) (fun c6 => ?_)
    · replace h := itn h c6
      refine g_aload_n (pc1 := 31) d_Main_amount_30 rfl 0 rfl ?_
      refine g_getr (pc1 := 34) d_Main_amount_31 rfl ⟨_, fo_Main_26⟩ sh_0 (by decide) (rf_0_2 ld) ?_
      refine g_iload_n (pc1 := 35) d_Main_amount_34 rfl 1 rfl ?_
      refine g_iload_n (pc1 := 36) d_Main_amount_35 rfl 2 rfl ?_
      refine g_callV0 (pc1 := 39) (As := [.int p1, .int p2]) (rest := []) d_Main_amount_36 rfl mo_Main_154 mi_Land_inDish mv_Land_inDish rfl (shLa_0 hld) (ltLa_0 hld) (by decide) rfl rfl (Nat.le_of_ble_eq_true rfl) ?_
      obtain ⟨r8, hq7, h⟩ := bnd h
      refine f_Land_inDish hld hld hq7 ?_
      dsimp only [psh]
      refine g_ireturn (Or.inl rfl) d_Main_amount_39 rfl ?_
      cases h; exact hQ
    · replace h := itp h c6
      refine g_iconst (pc1 := 29) (v := (-1)) d_Main_amount_28 rfl (by decide) ?_
      refine g_ireturn (Or.inl rfl) d_Main_amount_29 rfl ?_
      cases h; exact hQ

def F_Main_beginDraft (ld : Nat) (M : gM) : Option (gM) :=
  bI (F_State_begin 64 (50 - ld) M) (fun M2 => bI (F_Past_clear M2) (fun M4 => bI (F_Slots_clear M4) (fun M6 => bI (F_Told_clear M6) (fun M8 => some M8))))
set_option maxHeartbeats 4000000 in
set_option maxRecDepth 20000 in
theorem f_Main_beginDraft {l : Launch} {ld : Nat} {M : gM} {L : gL} {Q : Option Value → gM → gL → gR → Prop} (hld : isLa ld)   {q : gM} (h : F_Main_beginDraft ld M = some q) (hQ : Q none q L (rf (50 - ld))) : Tm l y_Main_beginDraft (0, 0, 447) 447 [.ref 0] M L (rf ld) Q := by
  refine Tm.of (by decide) (Nat.le_of_ble_eq_true rfl) ?_
  show Wp l y_Main_beginDraft (0, 0, 447) 447 0 0 0 [(0, .ref 0)] [] M L (rf ld) Q
  unfold F_Main_beginDraft at h
  refine g_aload_n (pc1 := 1) d_Main_beginDraft_0 rfl 0 rfl ?_
  refine g_getr (pc1 := 4) d_Main_beginDraft_1 rfl ⟨_, fo_Main_26⟩ sh_0 (by decide) (rf_0_2 ld) ?_
  refine g_astore_n (pc1 := 5) (lv' := [(0, .ref 0), (1, .ref ld)]) d_Main_beginDraft_4 rfl rfl (by decide) [1, 0] rfl ?_
  refine g_aload_n (pc1 := 6) d_Main_beginDraft_5 rfl 0 rfl ?_
  refine g_aload_n (pc1 := 7) d_Main_beginDraft_6 rfl 0 rfl ?_
  refine g_getr (pc1 := 10) d_Main_beginDraft_7 rfl ⟨_, fo_Main_30⟩ sh_0 (by decide) (rf_0_3 ld) ?_
  refine g_putr (pc1 := 13) d_Main_beginDraft_10 rfl fo_Main_26 po_0_2 sh_0 (by decide) ?_
  refine g_aload_n (pc1 := 14) d_Main_beginDraft_13 rfl 0 rfl ?_
  refine g_aload_n (pc1 := 15) d_Main_beginDraft_14 rfl 1 rfl ?_
  refine g_putr (pc1 := 18) d_Main_beginDraft_15 rfl fo_Main_30 po_0_3 sh_0 (by decide) ?_
  refine Wp.eqRR (rf_sw hld) ?_
  refine g_aload_n (pc1 := 19) d_Main_beginDraft_18 rfl 0 rfl ?_
  refine g_getr (pc1 := 22) d_Main_beginDraft_19 rfl ⟨_, fo_Main_36⟩ sh_0 (by decide) (rf_0_4 (50 - ld)) ?_
  refine g_aload_n (pc1 := 23) d_Main_beginDraft_22 rfl 0 rfl ?_
  refine g_getr (pc1 := 26) d_Main_beginDraft_23 rfl ⟨_, fo_Main_26⟩ sh_0 (by decide) (rf_0_2 (50 - ld)) ?_
  refine g_callV0 (pc1 := 29) (As := [.ref (50 - ld)]) (rest := []) d_Main_beginDraft_26 rfl mo_Main_100 mi_State_begin mv_State_begin rfl (shSt_0 isSt_64) (ltSt_0 isSt_64) (by decide) rfl rfl (Nat.le_of_ble_eq_true rfl) ?_
  obtain ⟨M2, hq1, h⟩ := bnd h
  refine f_State_begin (isLa_dr hld) isSt_64 (isLa_dr hld) hq1 ?_
  dsimp only [psh]
  refine g_aload_n (pc1 := 30) d_Main_beginDraft_29 rfl 0 rfl ?_
  refine g_getr (pc1 := 33) d_Main_beginDraft_30 rfl ⟨_, fo_Main_46⟩ sh_0 (by decide) (rf_0_6 (50 - ld)) ?_
  refine g_callV0 (pc1 := 36) (As := []) (rest := []) d_Main_beginDraft_33 rfl mo_Main_104 mi_Past_clear mv_Past_clear rfl sh_78 (by decide) (by decide) rfl rfl (Nat.le_of_ble_eq_true rfl) ?_
  obtain ⟨M4, hq3, h⟩ := bnd h
  refine f_Past_clear (isLa_dr hld)  hq3 ?_
  dsimp only [psh]
  refine g_aload_n (pc1 := 37) d_Main_beginDraft_36 rfl 0 rfl ?_
  refine g_getr (pc1 := 40) d_Main_beginDraft_37 rfl ⟨_, fo_Main_53⟩ sh_0 (by decide) (rf_0_7 (50 - ld)) ?_
  refine g_callV0 (pc1 := 43) (As := []) (rest := []) d_Main_beginDraft_40 rfl mo_Main_107 mi_Slots_clear mv_Slots_clear rfl sh_360 (by decide) (by decide) rfl rfl (Nat.le_of_ble_eq_true rfl) ?_
  obtain ⟨M6, hq5, h⟩ := bnd h
  refine f_Slots_clear (isLa_dr hld)  hq5 ?_
  dsimp only [psh]
  refine g_aload_n (pc1 := 44) d_Main_beginDraft_43 rfl 0 rfl ?_
  refine g_getr (pc1 := 47) d_Main_beginDraft_44 rfl ⟨_, fo_Main_60⟩ sh_0 (by decide) (rf_0_8 (50 - ld)) ?_
  refine g_callV0 (pc1 := 50) (As := []) (rest := []) d_Main_beginDraft_47 rfl mo_Main_108 mi_Told_clear mv_Told_clear rfl sh_383 (by decide) (by decide) rfl rfl (Nat.le_of_ble_eq_true rfl) ?_
  obtain ⟨M8, hq7, h⟩ := bnd h
  refine f_Told_clear (isLa_dr hld)  hq7 ?_
  dsimp only [psh]
  refine g_return rfl d_Main_beginDraft_50 rfl ?_
  cases h; exact hQ

def F_Main_count (ld : Nat) (p1 : Int32) (M : gM) : Option (Int32) :=
  (if p1 = 0 then some (M ld 0) else (if p1 = 1 then some (M ld 1) else (if p1 = 2 then some (M ld 2) else (if p1 = 3 then some (M ld 3) else (if p1 = 4 then some (M 64 0) else (if p1 = 5 then some (M 64 1) else (if p1 = 6 then some (M 64 3) else (if p1 = 7 then bI (F_Main_at (64 + 1) 3 (p1 - 7) M) (fun r10 => some r10) else (if p1 = 8 then bI (F_Main_at (64 + 1) 3 (p1 - 7) M) (fun r13 => some r13) else (if p1 = 9 then bI (F_Main_at (64 + 1) 3 (p1 - 7) M) (fun r16 => some r16) else (if p1 = 10 then some (M 1 1) else (if p1 = 11 then some (M 78 2) else (if p1 = 12 then some (M 383 3) else (if p1 = 13 then bI (F_Slots_full M) (fun r22 => some r22) else (if p1 = 14 then some (M 64 2) else (if p1 = 15 then bI (F_State_allMeals 64 M) (fun r26 => some r26) else some (-1)))))))))))))))))
set_option maxHeartbeats 4000000 in
set_option maxRecDepth 20000 in
theorem f_Main_count {l : Launch} {ld : Nat} {M : gM} {L : gL} {Q : Option Value → gM → gL → gR → Prop} (hld : isLa ld) {p1 : Int32}  {q : Int32} (h : F_Main_count ld p1 M = some q) (hQ : Q (some (.int q)) M L (rf ld)) : Tm l y_Main_count (0, 0, 447) 447 [.ref 0, .int p1] M L (rf ld) Q := by
  refine Tm.of (by decide) (Nat.le_of_ble_eq_true rfl) ?_
  show Wp l y_Main_count (0, 0, 447) 447 0 0 0 [(0, .ref 0), (1, .int p1)] [] M L (rf ld) Q
  unfold F_Main_count at h
  refine g_iload_n (pc1 := 1) d_Main_count_0 rfl 1 rfl ?_
  by_cases c1 : p1 = 0
  · replace h := itp h c1
    refine g_tabK (tgt := 80) (off := 79) d_Main_count_1 c1 (by decide) (by decide) (by decide) (by decide) ?_
    refine g_aload_n (pc1 := 81) d_Main_count_80 rfl 0 rfl ?_
    refine g_getr (pc1 := 84) d_Main_count_81 rfl ⟨_, fo_Main_26⟩ sh_0 (by decide) (rf_0_2 ld) ?_
    refine g_geti (pc1 := 87) d_Main_count_84 rfl ⟨_, fo_Main_109⟩ (shLa_0 hld) (ltLa_0 hld) ?_
    refine g_ireturn (Or.inl rfl) d_Main_count_87 rfl ?_
    cases h; exact hQ
  replace h := itn h c1
  by_cases c2 : p1 = 1
  · replace h := itp h c2
    refine g_tabK (tgt := 88) (off := 87) d_Main_count_1 c2 (by decide) (by decide) (by decide) (by decide) ?_
    refine g_aload_n (pc1 := 89) d_Main_count_88 rfl 0 rfl ?_
    refine g_getr (pc1 := 92) d_Main_count_89 rfl ⟨_, fo_Main_26⟩ sh_0 (by decide) (rf_0_2 ld) ?_
    refine g_geti (pc1 := 95) d_Main_count_92 rfl ⟨_, fo_Main_131⟩ (shLa_0 hld) (ltLa_0 hld) ?_
    refine g_ireturn (Or.inl rfl) d_Main_count_95 rfl ?_
    cases h; exact hQ
  replace h := itn h c2
  by_cases c3 : p1 = 2
  · replace h := itp h c3
    refine g_tabK (tgt := 96) (off := 95) d_Main_count_1 c3 (by decide) (by decide) (by decide) (by decide) ?_
    refine g_aload_n (pc1 := 97) d_Main_count_96 rfl 0 rfl ?_
    refine g_getr (pc1 := 100) d_Main_count_97 rfl ⟨_, fo_Main_26⟩ sh_0 (by decide) (rf_0_2 ld) ?_
    refine g_geti (pc1 := 103) d_Main_count_100 rfl ⟨_, fo_Main_157⟩ (shLa_0 hld) (ltLa_0 hld) ?_
    refine g_ireturn (Or.inl rfl) d_Main_count_103 rfl ?_
    cases h; exact hQ
  replace h := itn h c3
  by_cases c4 : p1 = 3
  · replace h := itp h c4
    refine g_tabK (tgt := 104) (off := 103) d_Main_count_1 c4 (by decide) (by decide) (by decide) (by decide) ?_
    refine g_aload_n (pc1 := 105) d_Main_count_104 rfl 0 rfl ?_
    refine g_getr (pc1 := 108) d_Main_count_105 rfl ⟨_, fo_Main_26⟩ sh_0 (by decide) (rf_0_2 ld) ?_
    refine g_geti (pc1 := 111) d_Main_count_108 rfl ⟨_, fo_Main_177⟩ (shLa_0 hld) (ltLa_0 hld) ?_
    refine g_ireturn (Or.inl rfl) d_Main_count_111 rfl ?_
    cases h; exact hQ
  replace h := itn h c4
  by_cases c5 : p1 = 4
  · replace h := itp h c5
    refine g_tabK (tgt := 112) (off := 111) d_Main_count_1 c5 (by decide) (by decide) (by decide) (by decide) ?_
    refine g_aload_n (pc1 := 113) d_Main_count_112 rfl 0 rfl ?_
    refine g_getr (pc1 := 116) d_Main_count_113 rfl ⟨_, fo_Main_36⟩ sh_0 (by decide) (rf_0_4 ld) ?_
    refine g_geti (pc1 := 119) d_Main_count_116 rfl ⟨_, fo_Main_144⟩ (shSt_0 isSt_64) (ltSt_0 isSt_64) ?_
    refine g_ireturn (Or.inl rfl) d_Main_count_119 rfl ?_
    cases h; exact hQ
  replace h := itn h c5
  by_cases c6 : p1 = 5
  · replace h := itp h c6
    refine g_tabK (tgt := 120) (off := 119) d_Main_count_1 c6 (by decide) (by decide) (by decide) (by decide) ?_
    refine g_aload_n (pc1 := 121) d_Main_count_120 rfl 0 rfl ?_
    refine g_getr (pc1 := 124) d_Main_count_121 rfl ⟨_, fo_Main_36⟩ sh_0 (by decide) (rf_0_4 ld) ?_
    refine g_geti (pc1 := 127) d_Main_count_124 rfl ⟨_, fo_Main_297⟩ (shSt_0 isSt_64) (ltSt_0 isSt_64) ?_
    refine g_ireturn (Or.inl rfl) d_Main_count_127 rfl ?_
    cases h; exact hQ
  replace h := itn h c6
  by_cases c7 : p1 = 6
  · replace h := itp h c7
    refine g_tabK (tgt := 128) (off := 127) d_Main_count_1 c7 (by decide) (by decide) (by decide) (by decide) ?_
    refine g_aload_n (pc1 := 129) d_Main_count_128 rfl 0 rfl ?_
    refine g_getr (pc1 := 132) d_Main_count_129 rfl ⟨_, fo_Main_36⟩ sh_0 (by decide) (rf_0_4 ld) ?_
    refine g_geti (pc1 := 135) d_Main_count_132 rfl ⟨_, fo_Main_208⟩ (shSt_0 isSt_64) (ltSt_0 isSt_64) ?_
    refine g_ireturn (Or.inl rfl) d_Main_count_135 rfl ?_
    cases h; exact hQ
  replace h := itn h c7
  by_cases c8 : p1 = 7
  · replace h := itp h c8
    refine g_tabK (tgt := 136) (off := 135) d_Main_count_1 c8 (by decide) (by decide) (by decide) (by decide) ?_
    refine g_aload_n (pc1 := 137) d_Main_count_136 rfl 0 rfl ?_
    refine g_getr (pc1 := 140) d_Main_count_137 rfl ⟨_, fo_Main_36⟩ sh_0 (by decide) (rf_0_4 ld) ?_
    refine g_getr (pc1 := 143) d_Main_count_140 rfl ⟨_, fo_Main_300⟩ (shSt_0 isSt_64) (ltSt_0 isSt_64) (rfSt_4 ld isSt_64) ?_
    refine g_iload_n (pc1 := 144) d_Main_count_143 rfl 1 rfl ?_
    refine g_bipush (pc1 := 146) (v := 7) d_Main_count_144 rfl (by decide) ?_
    refine g_isub (pc1 := 147) d_Main_count_146 rfl ?_
    refine g_callS0 (pc1 := 150) (As := [.ref (64 + 1), .int (p1 - 7)]) (rest := []) d_Main_count_147 rfl mo_Main_120 ms_Main_at (by decide) rfl rfl (Nat.le_of_ble_eq_true rfl) ?_
    obtain ⟨r10, hq9, h⟩ := bnd h
    refine f_Main_at hld (shSt_1 isSt_64) (ltSt_1 isSt_64) (by decide) hq9 ?_
    dsimp only [psh]
    refine g_ireturn (Or.inl rfl) d_Main_count_150 rfl ?_
    cases h; exact hQ
  replace h := itn h c8
  by_cases c11 : p1 = 8
  · replace h := itp h c11
    refine g_tabK (tgt := 136) (off := 135) d_Main_count_1 c11 (by decide) (by decide) (by decide) (by decide) ?_
    refine g_aload_n (pc1 := 137) d_Main_count_136 rfl 0 rfl ?_
    refine g_getr (pc1 := 140) d_Main_count_137 rfl ⟨_, fo_Main_36⟩ sh_0 (by decide) (rf_0_4 ld) ?_
    refine g_getr (pc1 := 143) d_Main_count_140 rfl ⟨_, fo_Main_300⟩ (shSt_0 isSt_64) (ltSt_0 isSt_64) (rfSt_4 ld isSt_64) ?_
    refine g_iload_n (pc1 := 144) d_Main_count_143 rfl 1 rfl ?_
    refine g_bipush (pc1 := 146) (v := 7) d_Main_count_144 rfl (by decide) ?_
    refine g_isub (pc1 := 147) d_Main_count_146 rfl ?_
    refine g_callS0 (pc1 := 150) (As := [.ref (64 + 1), .int (p1 - 7)]) (rest := []) d_Main_count_147 rfl mo_Main_120 ms_Main_at (by decide) rfl rfl (Nat.le_of_ble_eq_true rfl) ?_
    obtain ⟨r13, hq12, h⟩ := bnd h
    refine f_Main_at hld (shSt_1 isSt_64) (ltSt_1 isSt_64) (by decide) hq12 ?_
    dsimp only [psh]
    refine g_ireturn (Or.inl rfl) d_Main_count_150 rfl ?_
    cases h; exact hQ
  replace h := itn h c11
  by_cases c14 : p1 = 9
  · replace h := itp h c14
    refine g_tabK (tgt := 136) (off := 135) d_Main_count_1 c14 (by decide) (by decide) (by decide) (by decide) ?_
    refine g_aload_n (pc1 := 137) d_Main_count_136 rfl 0 rfl ?_
    refine g_getr (pc1 := 140) d_Main_count_137 rfl ⟨_, fo_Main_36⟩ sh_0 (by decide) (rf_0_4 ld) ?_
    refine g_getr (pc1 := 143) d_Main_count_140 rfl ⟨_, fo_Main_300⟩ (shSt_0 isSt_64) (ltSt_0 isSt_64) (rfSt_4 ld isSt_64) ?_
    refine g_iload_n (pc1 := 144) d_Main_count_143 rfl 1 rfl ?_
    refine g_bipush (pc1 := 146) (v := 7) d_Main_count_144 rfl (by decide) ?_
    refine g_isub (pc1 := 147) d_Main_count_146 rfl ?_
    refine g_callS0 (pc1 := 150) (As := [.ref (64 + 1), .int (p1 - 7)]) (rest := []) d_Main_count_147 rfl mo_Main_120 ms_Main_at (by decide) rfl rfl (Nat.le_of_ble_eq_true rfl) ?_
    obtain ⟨r16, hq15, h⟩ := bnd h
    refine f_Main_at hld (shSt_1 isSt_64) (ltSt_1 isSt_64) (by decide) hq15 ?_
    dsimp only [psh]
    refine g_ireturn (Or.inl rfl) d_Main_count_150 rfl ?_
    cases h; exact hQ
  replace h := itn h c14
  by_cases c17 : p1 = 10
  · replace h := itp h c17
    refine g_tabK (tgt := 151) (off := 150) d_Main_count_1 c17 (by decide) (by decide) (by decide) (by decide) ?_
    refine g_aload_n (pc1 := 152) d_Main_count_151 rfl 0 rfl ?_
    refine g_getr (pc1 := 155) d_Main_count_152 rfl ⟨_, fo_Main_12⟩ sh_0 (by decide) (rf_0_0 ld) ?_
    refine g_geti (pc1 := 158) d_Main_count_155 rfl ⟨_, fo_Main_82⟩ sh_1 (by decide) ?_
    refine g_ireturn (Or.inl rfl) d_Main_count_158 rfl ?_
    cases h; exact hQ
  replace h := itn h c17
  by_cases c18 : p1 = 11
  · replace h := itp h c18
    refine g_tabK (tgt := 159) (off := 158) d_Main_count_1 c18 (by decide) (by decide) (by decide) (by decide) ?_
    refine g_aload_n (pc1 := 160) d_Main_count_159 rfl 0 rfl ?_
    refine g_getr (pc1 := 163) d_Main_count_160 rfl ⟨_, fo_Main_46⟩ sh_0 (by decide) (rf_0_6 ld) ?_
    refine g_geti (pc1 := 166) d_Main_count_163 rfl ⟨_, fo_Main_303⟩ sh_78 (by decide) ?_
    refine g_ireturn (Or.inl rfl) d_Main_count_166 rfl ?_
    cases h; exact hQ
  replace h := itn h c18
  by_cases c19 : p1 = 12
  · replace h := itp h c19
    refine g_tabK (tgt := 167) (off := 166) d_Main_count_1 c19 (by decide) (by decide) (by decide) (by decide) ?_
    refine g_aload_n (pc1 := 168) d_Main_count_167 rfl 0 rfl ?_
    refine g_getr (pc1 := 171) d_Main_count_168 rfl ⟨_, fo_Main_60⟩ sh_0 (by decide) (rf_0_8 ld) ?_
    refine g_geti (pc1 := 174) d_Main_count_171 rfl ⟨_, fo_Main_275⟩ sh_383 (by decide) ?_
    refine g_ireturn (Or.inl rfl) d_Main_count_174 rfl ?_
    cases h; exact hQ
  replace h := itn h c19
  by_cases c20 : p1 = 13
  · replace h := itp h c20
    refine g_tabK (tgt := 175) (off := 174) d_Main_count_1 c20 (by decide) (by decide) (by decide) (by decide) ?_
    refine g_aload_n (pc1 := 176) d_Main_count_175 rfl 0 rfl ?_
    refine g_getr (pc1 := 179) d_Main_count_176 rfl ⟨_, fo_Main_53⟩ sh_0 (by decide) (rf_0_7 ld) ?_
    refine g_callV0 (pc1 := 182) (As := []) (rest := []) d_Main_count_179 rfl mo_Main_304 mi_Slots_full mv_Slots_full rfl sh_360 (by decide) (by decide) rfl rfl (Nat.le_of_ble_eq_true rfl) ?_
    obtain ⟨r22, hq21, h⟩ := bnd h
    refine f_Slots_full hld  hq21 ?_
    dsimp only [psh]
    refine g_ireturn (Or.inl rfl) d_Main_count_182 rfl ?_
    cases h; exact hQ
  replace h := itn h c20
  by_cases c23 : p1 = 14
  · replace h := itp h c23
    refine g_tabK (tgt := 183) (off := 182) d_Main_count_1 c23 (by decide) (by decide) (by decide) (by decide) ?_
    refine g_aload_n (pc1 := 184) d_Main_count_183 rfl 0 rfl ?_
    refine g_getr (pc1 := 187) d_Main_count_184 rfl ⟨_, fo_Main_36⟩ sh_0 (by decide) (rf_0_4 ld) ?_
    refine g_geti (pc1 := 190) d_Main_count_187 rfl ⟨_, fo_Main_307⟩ (shSt_0 isSt_64) (ltSt_0 isSt_64) ?_
    refine g_ireturn (Or.inl rfl) d_Main_count_190 rfl ?_
    cases h; exact hQ
  replace h := itn h c23
  by_cases c24 : p1 = 15
  · replace h := itp h c24
    refine g_tabK (tgt := 191) (off := 190) d_Main_count_1 c24 (by decide) (by decide) (by decide) (by decide) ?_
    refine g_aload_n (pc1 := 192) d_Main_count_191 rfl 0 rfl ?_
    refine g_getr (pc1 := 195) d_Main_count_192 rfl ⟨_, fo_Main_36⟩ sh_0 (by decide) (rf_0_4 ld) ?_
    refine g_callV0 (pc1 := 198) (As := []) (rest := []) d_Main_count_195 rfl mo_Main_310 mi_State_allMeals mv_State_allMeals rfl (shSt_0 isSt_64) (ltSt_0 isSt_64) (by decide) rfl rfl (Nat.le_of_ble_eq_true rfl) ?_
    obtain ⟨r26, hq25, h⟩ := bnd h
    refine f_State_allMeals hld isSt_64 hq25 ?_
    dsimp only [psh]
    refine g_ireturn (Or.inl rfl) d_Main_count_198 rfl ?_
    cases h; exact hQ
  replace h := itn h c24
  refine g_tabOut (tgt := 199) d_Main_count_1 (by
    have nc1 := neT (a := 0) c1 (by decide)
    have nc2 := neT (a := 1) c2 (by decide)
    have nc3 := neT (a := 2) c3 (by decide)
    have nc4 := neT (a := 3) c4 (by decide)
    have nc5 := neT (a := 4) c5 (by decide)
    have nc6 := neT (a := 5) c6 (by decide)
    have nc7 := neT (a := 6) c7 (by decide)
    have nc8 := neT (a := 7) c8 (by decide)
    have nc11 := neT (a := 8) c11 (by decide)
    have nc14 := neT (a := 9) c14 (by decide)
    have nc17 := neT (a := 10) c17 (by decide)
    have nc18 := neT (a := 11) c18 (by decide)
    have nc19 := neT (a := 12) c19 (by decide)
    have nc20 := neT (a := 13) c20 (by decide)
    have nc23 := neT (a := 14) c23 (by decide)
    have nc24 := neT (a := 15) c24 (by decide)
    omega) (by decide) ?_
  refine g_iconst (pc1 := 200) (v := (-1)) d_Main_count_199 rfl (by decide) ?_
  refine g_ireturn (Or.inl rfl) d_Main_count_200 rfl ?_
  cases h; exact hQ

def F_Main_feed (p1 : Int32) (p2 : Int32) (p3 : Int32) (p4 : Int32) (p5 : Int32) (M : gM) : Option (Int32 × gM) :=
  (if ((M 1 1) + 20) ≤ 2000 then bI (F_Tape_write p1 M) (fun M3 => bI (F_Tape_write p2 M3) (fun M5 => bI (F_Tape_write p3 M5) (fun M7 => bI (F_Tape_write p4 M7) (fun M9 => bI (F_Tape_write p5 M9) (fun M11 => some ((M11 1 1), M11)))))) else some ((-1), M))
set_option maxHeartbeats 4000000 in
set_option maxRecDepth 20000 in
theorem f_Main_feed {l : Launch} {ld : Nat} {M : gM} {L : gL} {Q : Option Value → gM → gL → gR → Prop} (hld : isLa ld) {p1 : Int32} {p2 : Int32} {p3 : Int32} {p4 : Int32} {p5 : Int32}  {q : Int32 × gM} (h : F_Main_feed p1 p2 p3 p4 p5 M = some q) (hQ : Q (some (.int q.1)) q.2 L (rf ld)) : Tm l y_Main_feed (0, 0, 447) 447 [.ref 0, .int p1, .int p2, .int p3, .int p4, .int p5] M L (rf ld) Q := by
  refine Tm.of (by decide) (Nat.le_of_ble_eq_true rfl) ?_
  show Wp l y_Main_feed (0, 0, 447) 447 0 0 0 [(0, .ref 0), (1, .int p1), (2, .int p2), (3, .int p3), (4, .int p4), (5, .int p5)] [] M L (rf ld) Q
  unfold F_Main_feed at h
  refine g_aload_n (pc1 := 1) d_Main_feed_0 rfl 0 rfl ?_
  refine g_getr (pc1 := 4) d_Main_feed_1 rfl ⟨_, fo_Main_12⟩ sh_0 (by decide) (rf_0_0 ld) ?_
  refine g_geti (pc1 := 7) d_Main_feed_4 rfl ⟨_, fo_Main_82⟩ sh_1 (by decide) ?_
  refine g_bipush (pc1 := 9) (v := 20) d_Main_feed_7 rfl (by decide) ?_
  refine g_iadd (pc1 := 10) d_Main_feed_9 rfl ?_
  refine g_sipush (pc1 := 13) (v := 2000) d_Main_feed_10 rfl (by decide) ?_
  refine g_icmp_le (pc1 := 16) (tgt := 18) d_Main_feed_13 (by decide) rfl (fun c1 => ?_) (fun c1 => ?_)
  · replace h := itp h c1
    refine g_aload_n (pc1 := 19) d_Main_feed_18 rfl 0 rfl ?_
    refine g_getr (pc1 := 22) d_Main_feed_19 rfl ⟨_, fo_Main_12⟩ sh_0 (by decide) (rf_0_0 ld) ?_
    refine g_iload_n (pc1 := 23) d_Main_feed_22 rfl 1 rfl ?_
    refine g_callV0 (pc1 := 26) (As := [.int p1]) (rest := []) d_Main_feed_23 rfl mo_Main_85 mi_Tape_write mv_Tape_write rfl sh_1 (by decide) (by decide) rfl rfl (Nat.le_of_ble_eq_true rfl) ?_
    obtain ⟨M3, hq2, h⟩ := bnd h
    refine f_Tape_write hld  hq2 ?_
    dsimp only [psh]
    refine g_aload_n (pc1 := 27) d_Main_feed_26 rfl 0 rfl ?_
    refine g_getr (pc1 := 30) d_Main_feed_27 rfl ⟨_, fo_Main_12⟩ sh_0 (by decide) (rf_0_0 ld) ?_
    refine g_iload_n (pc1 := 31) d_Main_feed_30 rfl 2 rfl ?_
    refine g_callV0 (pc1 := 34) (As := [.int p2]) (rest := []) d_Main_feed_31 rfl mo_Main_85 mi_Tape_write mv_Tape_write rfl sh_1 (by decide) (by decide) rfl rfl (Nat.le_of_ble_eq_true rfl) ?_
    obtain ⟨M5, hq4, h⟩ := bnd h
    refine f_Tape_write hld  hq4 ?_
    dsimp only [psh]
    refine g_aload_n (pc1 := 35) d_Main_feed_34 rfl 0 rfl ?_
    refine g_getr (pc1 := 38) d_Main_feed_35 rfl ⟨_, fo_Main_12⟩ sh_0 (by decide) (rf_0_0 ld) ?_
    refine g_iload_n (pc1 := 39) d_Main_feed_38 rfl 3 rfl ?_
    refine g_callV0 (pc1 := 42) (As := [.int p3]) (rest := []) d_Main_feed_39 rfl mo_Main_85 mi_Tape_write mv_Tape_write rfl sh_1 (by decide) (by decide) rfl rfl (Nat.le_of_ble_eq_true rfl) ?_
    obtain ⟨M7, hq6, h⟩ := bnd h
    refine f_Tape_write hld  hq6 ?_
    dsimp only [psh]
    refine g_aload_n (pc1 := 43) d_Main_feed_42 rfl 0 rfl ?_
    refine g_getr (pc1 := 46) d_Main_feed_43 rfl ⟨_, fo_Main_12⟩ sh_0 (by decide) (rf_0_0 ld) ?_
    refine g_iload (pc1 := 48) d_Main_feed_46 rfl 4 rfl ?_
    refine g_callV0 (pc1 := 51) (As := [.int p4]) (rest := []) d_Main_feed_48 rfl mo_Main_85 mi_Tape_write mv_Tape_write rfl sh_1 (by decide) (by decide) rfl rfl (Nat.le_of_ble_eq_true rfl) ?_
    obtain ⟨M9, hq8, h⟩ := bnd h
    refine f_Tape_write hld  hq8 ?_
    dsimp only [psh]
    refine g_aload_n (pc1 := 52) d_Main_feed_51 rfl 0 rfl ?_
    refine g_getr (pc1 := 55) d_Main_feed_52 rfl ⟨_, fo_Main_12⟩ sh_0 (by decide) (rf_0_0 ld) ?_
    refine g_iload (pc1 := 57) d_Main_feed_55 rfl 5 rfl ?_
    refine g_callV0 (pc1 := 60) (As := [.int p5]) (rest := []) d_Main_feed_57 rfl mo_Main_85 mi_Tape_write mv_Tape_write rfl sh_1 (by decide) (by decide) rfl rfl (Nat.le_of_ble_eq_true rfl) ?_
    obtain ⟨M11, hq10, h⟩ := bnd h
    refine f_Tape_write hld  hq10 ?_
    dsimp only [psh]
    refine g_aload_n (pc1 := 61) d_Main_feed_60 rfl 0 rfl ?_
    refine g_getr (pc1 := 64) d_Main_feed_61 rfl ⟨_, fo_Main_12⟩ sh_0 (by decide) (rf_0_0 ld) ?_
    refine g_geti (pc1 := 67) d_Main_feed_64 rfl ⟨_, fo_Main_82⟩ sh_1 (by decide) ?_
    refine g_ireturn (Or.inl rfl) d_Main_feed_67 rfl ?_
    cases h; exact hQ
  · replace h := itn h c1
    refine g_iconst (pc1 := 17) (v := (-1)) d_Main_feed_16 rfl (by decide) ?_
    refine g_ireturn (Or.inl rfl) d_Main_feed_17 rfl ?_
    cases h; exact hQ

def F_Main_food (ld : Nat) (p1 : Int32) (p2 : Int32) (M : gM) : Option (Int32) :=
  bI (F_Main_isOne p1 (M ld 0)) (fun r2 => (if r2 = 0 then some (-1) else (if p2 = 0 then bI (F_Main_at (64 + 2) 6 p1 M) (fun r6 => some r6) else (if p2 = 1 then bI (F_Main_at (ld + 2) 6 p1 M) (fun r9 => some r9) else (if p2 = 2 then bI (F_Land_broughtBy ld p1 (p2 - 2) M) (fun r12 => some r12) else (if p2 = 3 then bI (F_Land_broughtBy ld p1 (p2 - 2) M) (fun r15 => some r15) else (if p2 = 4 then bI (F_Land_broughtBy ld p1 (p2 - 2) M) (fun r18 => some r18) else some (-1))))))))
set_option maxHeartbeats 4000000 in
set_option maxRecDepth 20000 in
theorem f_Main_food {l : Launch} {ld : Nat} {M : gM} {L : gL} {Q : Option Value → gM → gL → gR → Prop} (hld : isLa ld) {p1 : Int32} {p2 : Int32}  {q : Int32} (h : F_Main_food ld p1 p2 M = some q) (hQ : Q (some (.int q)) M L (rf ld)) : Tm l y_Main_food (0, 0, 447) 447 [.ref 0, .int p1, .int p2] M L (rf ld) Q := by
  refine Tm.of (by decide) (Nat.le_of_ble_eq_true rfl) ?_
  show Wp l y_Main_food (0, 0, 447) 447 0 0 0 [(0, .ref 0), (1, .int p1), (2, .int p2)] [] M L (rf ld) Q
  unfold F_Main_food at h
  refine g_iload_n (pc1 := 1) d_Main_food_0 rfl 1 rfl ?_
  refine g_aload_n (pc1 := 2) d_Main_food_1 rfl 0 rfl ?_
  refine g_getr (pc1 := 5) d_Main_food_2 rfl ⟨_, fo_Main_26⟩ sh_0 (by decide) (rf_0_2 ld) ?_
  refine g_geti (pc1 := 8) d_Main_food_5 rfl ⟨_, fo_Main_109⟩ (shLa_0 hld) (ltLa_0 hld) ?_
  refine g_callS0 (pc1 := 11) (As := [.int p1, .int (M ld 0)]) (rest := []) d_Main_food_8 rfl mo_Main_112 ms_Main_isOne (by decide) rfl rfl (Nat.le_of_ble_eq_true rfl) ?_
  obtain ⟨r2, hq1, h⟩ := bnd h
  refine f_Main_isOne hld  hq1 ?_
  dsimp only [psh]
  refine g_if_ne (pc1 := 14) (tgt := 16) d_Main_food_11 (by decide) rfl (fun c3 => ?_) (fun c3 => ?_)
  · replace h := itn h c3
    refine g_iload_n (pc1 := 17) d_Main_food_16 rfl 2 rfl ?_
    by_cases c4 : p2 = 0
    · replace h := itp h c4
      refine g_tabK (tgt := 52) (off := 35) d_Main_food_17 c4 (by decide) (by decide) (by decide) (by decide) ?_
      refine g_aload_n (pc1 := 53) d_Main_food_52 rfl 0 rfl ?_
      refine g_getr (pc1 := 56) d_Main_food_53 rfl ⟨_, fo_Main_36⟩ sh_0 (by decide) (rf_0_4 ld) ?_
      refine g_getr (pc1 := 59) d_Main_food_56 rfl ⟨_, fo_Main_116⟩ (shSt_0 isSt_64) (ltSt_0 isSt_64) (rfSt_5 ld isSt_64) ?_
      refine g_iload_n (pc1 := 60) d_Main_food_59 rfl 1 rfl ?_
      refine g_callS0 (pc1 := 63) (As := [.ref (64 + 2), .int p1]) (rest := []) d_Main_food_60 rfl mo_Main_120 ms_Main_at (by decide) rfl rfl (Nat.le_of_ble_eq_true rfl) ?_
      obtain ⟨r6, hq5, h⟩ := bnd h
      refine f_Main_at hld (shSt_2 isSt_64) (ltSt_2 isSt_64) (by decide) hq5 ?_
      dsimp only [psh]
      refine g_ireturn (Or.inl rfl) d_Main_food_63 rfl ?_
      cases h; exact hQ
    replace h := itn h c4
    by_cases c7 : p2 = 1
    · replace h := itp h c7
      refine g_tabK (tgt := 64) (off := 47) d_Main_food_17 c7 (by decide) (by decide) (by decide) (by decide) ?_
      refine g_aload_n (pc1 := 65) d_Main_food_64 rfl 0 rfl ?_
      refine g_getr (pc1 := 68) d_Main_food_65 rfl ⟨_, fo_Main_26⟩ sh_0 (by decide) (rf_0_2 ld) ?_
      refine g_getr (pc1 := 71) d_Main_food_68 rfl ⟨_, fo_Main_124⟩ (shLa_0 hld) (ltLa_0 hld) (rfLa_6 ld hld) ?_
      refine g_iload_n (pc1 := 72) d_Main_food_71 rfl 1 rfl ?_
      refine g_callS0 (pc1 := 75) (As := [.ref (ld + 2), .int p1]) (rest := []) d_Main_food_72 rfl mo_Main_120 ms_Main_at (by decide) rfl rfl (Nat.le_of_ble_eq_true rfl) ?_
      obtain ⟨r9, hq8, h⟩ := bnd h
      refine f_Main_at hld (shLa_2 hld) (ltLa_2 hld) (by decide) hq8 ?_
      dsimp only [psh]
      refine g_ireturn (Or.inl rfl) d_Main_food_75 rfl ?_
      cases h; exact hQ
    replace h := itn h c7
    by_cases c10 : p2 = 2
    · replace h := itp h c10
      refine g_tabK (tgt := 76) (off := 59) d_Main_food_17 c10 (by decide) (by decide) (by decide) (by decide) ?_
      refine g_aload_n (pc1 := 77) d_Main_food_76 rfl 0 rfl ?_
      refine g_getr (pc1 := 80) d_Main_food_77 rfl ⟨_, fo_Main_26⟩ sh_0 (by decide) (rf_0_2 ld) ?_
      refine g_iload_n (pc1 := 81) d_Main_food_80 rfl 1 rfl ?_
      refine g_iload_n (pc1 := 82) d_Main_food_81 rfl 2 rfl ?_
      refine g_iconst (pc1 := 83) (v := 2) d_Main_food_82 rfl (by decide) ?_
      refine g_isub (pc1 := 84) d_Main_food_83 rfl ?_
      refine g_callV0 (pc1 := 87) (As := [.int p1, .int (p2 - 2)]) (rest := []) d_Main_food_84 rfl mo_Main_127 mi_Land_broughtBy mv_Land_broughtBy rfl (shLa_0 hld) (ltLa_0 hld) (by decide) rfl rfl (Nat.le_of_ble_eq_true rfl) ?_
      obtain ⟨r12, hq11, h⟩ := bnd h
      refine f_Land_broughtBy hld hld hq11 ?_
      dsimp only [psh]
      refine g_ireturn (Or.inl rfl) d_Main_food_87 rfl ?_
      cases h; exact hQ
    replace h := itn h c10
    by_cases c13 : p2 = 3
    · replace h := itp h c13
      refine g_tabK (tgt := 76) (off := 59) d_Main_food_17 c13 (by decide) (by decide) (by decide) (by decide) ?_
      refine g_aload_n (pc1 := 77) d_Main_food_76 rfl 0 rfl ?_
      refine g_getr (pc1 := 80) d_Main_food_77 rfl ⟨_, fo_Main_26⟩ sh_0 (by decide) (rf_0_2 ld) ?_
      refine g_iload_n (pc1 := 81) d_Main_food_80 rfl 1 rfl ?_
      refine g_iload_n (pc1 := 82) d_Main_food_81 rfl 2 rfl ?_
      refine g_iconst (pc1 := 83) (v := 2) d_Main_food_82 rfl (by decide) ?_
      refine g_isub (pc1 := 84) d_Main_food_83 rfl ?_
      refine g_callV0 (pc1 := 87) (As := [.int p1, .int (p2 - 2)]) (rest := []) d_Main_food_84 rfl mo_Main_127 mi_Land_broughtBy mv_Land_broughtBy rfl (shLa_0 hld) (ltLa_0 hld) (by decide) rfl rfl (Nat.le_of_ble_eq_true rfl) ?_
      obtain ⟨r15, hq14, h⟩ := bnd h
      refine f_Land_broughtBy hld hld hq14 ?_
      dsimp only [psh]
      refine g_ireturn (Or.inl rfl) d_Main_food_87 rfl ?_
      cases h; exact hQ
    replace h := itn h c13
    by_cases c16 : p2 = 4
    · replace h := itp h c16
      refine g_tabK (tgt := 76) (off := 59) d_Main_food_17 c16 (by decide) (by decide) (by decide) (by decide) ?_
      refine g_aload_n (pc1 := 77) d_Main_food_76 rfl 0 rfl ?_
      refine g_getr (pc1 := 80) d_Main_food_77 rfl ⟨_, fo_Main_26⟩ sh_0 (by decide) (rf_0_2 ld) ?_
      refine g_iload_n (pc1 := 81) d_Main_food_80 rfl 1 rfl ?_
      refine g_iload_n (pc1 := 82) d_Main_food_81 rfl 2 rfl ?_
      refine g_iconst (pc1 := 83) (v := 2) d_Main_food_82 rfl (by decide) ?_
      refine g_isub (pc1 := 84) d_Main_food_83 rfl ?_
      refine g_callV0 (pc1 := 87) (As := [.int p1, .int (p2 - 2)]) (rest := []) d_Main_food_84 rfl mo_Main_127 mi_Land_broughtBy mv_Land_broughtBy rfl (shLa_0 hld) (ltLa_0 hld) (by decide) rfl rfl (Nat.le_of_ble_eq_true rfl) ?_
      obtain ⟨r18, hq17, h⟩ := bnd h
      refine f_Land_broughtBy hld hld hq17 ?_
      dsimp only [psh]
      refine g_ireturn (Or.inl rfl) d_Main_food_87 rfl ?_
      cases h; exact hQ
    replace h := itn h c16
    refine g_tabOut (tgt := 88) d_Main_food_17 (by
      have nc4 := neT (a := 0) c4 (by decide)
      have nc7 := neT (a := 1) c7 (by decide)
      have nc10 := neT (a := 2) c10 (by decide)
      have nc13 := neT (a := 3) c13 (by decide)
      have nc16 := neT (a := 4) c16 (by decide)
      omega) (by decide) ?_
    refine g_iconst (pc1 := 89) (v := (-1)) d_Main_food_88 rfl (by decide) ?_
    refine g_ireturn (Or.inl rfl) d_Main_food_89 rfl ?_
    cases h; exact hQ
  · replace h := itp h c3
    refine g_iconst (pc1 := 15) (v := (-1)) d_Main_food_14 rfl (by decide) ?_
    refine g_ireturn (Or.inl rfl) d_Main_food_15 rfl ?_
    cases h; exact hQ

def F_Main_tell (p1 : Int32) (p2 : Int32) (p3 : Int32) (M : gM) : Option (Int32 × gM) :=
  bI (F_Main_isOne p1 3) (fun r2 => (if r2 = 0 then some ((-1), M) else bI (F_Main_isOne p2 10) (fun r5 => (if r5 = 0 then some ((-1), M) else bI (F_Main_isOne p3 100) (fun r8 => (if r8 = 0 then some ((-1), M) else bI2 (F_Told_add p1 p2 p3 M) (fun r11 M12 => some (r11, M12))))))))
set_option maxHeartbeats 4000000 in
set_option maxRecDepth 20000 in
theorem f_Main_tell {l : Launch} {ld : Nat} {M : gM} {L : gL} {Q : Option Value → gM → gL → gR → Prop} (hld : isLa ld) {p1 : Int32} {p2 : Int32} {p3 : Int32}  {q : Int32 × gM} (h : F_Main_tell p1 p2 p3 M = some q) (hQ : Q (some (.int q.1)) q.2 L (rf ld)) : Tm l y_Main_tell (0, 0, 447) 447 [.ref 0, .int p1, .int p2, .int p3] M L (rf ld) Q := by
  refine Tm.of (by decide) (Nat.le_of_ble_eq_true rfl) ?_
  show Wp l y_Main_tell (0, 0, 447) 447 0 0 0 [(0, .ref 0), (1, .int p1), (2, .int p2), (3, .int p3)] [] M L (rf ld) Q
  unfold F_Main_tell at h
  refine g_iload_n (pc1 := 1) d_Main_tell_0 rfl 1 rfl ?_
  refine g_iconst (pc1 := 2) (v := 3) d_Main_tell_1 rfl (by decide) ?_
  refine g_callS0 (pc1 := 5) (As := [.int p1, .int 3]) (rest := []) d_Main_tell_2 rfl mo_Main_112 ms_Main_isOne (by decide) rfl rfl (Nat.le_of_ble_eq_true rfl) ?_
  obtain ⟨r2, hq1, h⟩ := bnd h
  refine f_Main_isOne hld  hq1 ?_
  dsimp only [psh]
  refine g_if_eq (pc1 := 8) (tgt := 26) d_Main_tell_5 (by decide) rfl (fun c3 => ?_) (fun c3 => ?_)
  · replace h := itp h c3
    refine g_iconst (pc1 := 27) (v := (-1)) d_Main_tell_26 rfl (by decide) ?_
    refine g_ireturn (Or.inl rfl) d_Main_tell_27 rfl ?_
    cases h; exact hQ
  · replace h := itn h c3
    refine g_iload_n (pc1 := 9) d_Main_tell_8 rfl 2 rfl ?_
    refine g_bipush (pc1 := 11) (v := 10) d_Main_tell_9 rfl (by decide) ?_
    refine g_callS0 (pc1 := 14) (As := [.int p2, .int 10]) (rest := []) d_Main_tell_11 rfl mo_Main_112 ms_Main_isOne (by decide) rfl rfl (Nat.le_of_ble_eq_true rfl) ?_
    obtain ⟨r5, hq4, h⟩ := bnd h
    refine f_Main_isOne hld  hq4 ?_
    dsimp only [psh]
    refine g_if_eq (pc1 := 17) (tgt := 26) d_Main_tell_14 (by decide) rfl (fun c6 => ?_) (fun c6 => ?_)
    · replace h := itp h c6
      refine g_iconst (pc1 := 27) (v := (-1)) d_Main_tell_26 rfl (by decide) ?_
      refine g_ireturn (Or.inl rfl) d_Main_tell_27 rfl ?_
      cases h; exact hQ
    · replace h := itn h c6
      refine g_iload_n (pc1 := 18) d_Main_tell_17 rfl 3 rfl ?_
      refine g_bipush (pc1 := 20) (v := 100) d_Main_tell_18 rfl (by decide) ?_
      refine g_callS0 (pc1 := 23) (As := [.int p3, .int 100]) (rest := []) d_Main_tell_20 rfl mo_Main_112 ms_Main_isOne (by decide) rfl rfl (Nat.le_of_ble_eq_true rfl) ?_
      obtain ⟨r8, hq7, h⟩ := bnd h
      refine f_Main_isOne hld  hq7 ?_
      dsimp only [psh]
      refine g_if_ne (pc1 := 26) (tgt := 28) d_Main_tell_23 (by decide) rfl (fun c9 => ?_) (fun c9 => ?_)
      · replace h := itn h c9
        refine g_aload_n (pc1 := 29) d_Main_tell_28 rfl 0 rfl ?_
        refine g_getr (pc1 := 32) d_Main_tell_29 rfl ⟨_, fo_Main_60⟩ sh_0 (by decide) (rf_0_8 ld) ?_
        refine g_iload_n (pc1 := 33) d_Main_tell_32 rfl 1 rfl ?_
        refine g_iload_n (pc1 := 34) d_Main_tell_33 rfl 2 rfl ?_
        refine g_iload_n (pc1 := 35) d_Main_tell_34 rfl 3 rfl ?_
        refine g_callV0 (pc1 := 38) (As := [.int p1, .int p2, .int p3]) (rest := []) d_Main_tell_35 rfl mo_Main_271 mi_Told_add mv_Told_add rfl sh_383 (by decide) (by decide) rfl rfl (Nat.le_of_ble_eq_true rfl) ?_
        obtain ⟨r11, M12, hq10, h⟩ := bnd2 h
        refine f_Told_add hld  hq10 ?_
        dsimp only [psh]
        refine g_ireturn (Or.inl rfl) d_Main_tell_38 rfl ?_
        cases h; exact hQ
      · replace h := itp h c9
        refine g_iconst (pc1 := 27) (v := (-1)) d_Main_tell_26 rfl (by decide) ?_
        refine g_ireturn (Or.inl rfl) d_Main_tell_27 rfl ?_
        cases h; exact hQ

def F_Land_boundBy (Ld0 : Nat) (p1 : Int32) (p2 : Int32) (p3 : Int32) (p4 : Int32) (p5 : Int32) (M : gM) : Option (Int32 × gM) :=
  bI (F_Law_isTold (Ld0 + 13) M) (fun r2 => (if r2 = 0 then bI (F_Main_within (p3 - p4) 0 99) (fun r22 => some (r22, M)) else bI (F_Law_let (Ld0 + 13) 0 p3 M) (fun M5 => bI (F_Law_let (Ld0 + 13) 2 p2 M5) (fun M7 => bI (F_Main_at (Ld0 + 6) 4 p1 M7) (fun r9 => bI (F_Law_let (Ld0 + 13) 5 r9 M7) (fun M11 => bI (F_Law_let (Ld0 + 13) 6 p4 M11) (fun M13 => bI (F_Law_let (Ld0 + 13) 4 p5 M13) (fun M15 => bI2 (F_Law_value (Ld0 + 13) M15) (fun r17 M18 => bI (F_Main_within r17 0 99) (fun r20 => some (r20, M18)))))))))))
set_option maxHeartbeats 4000000 in
set_option maxRecDepth 20000 in
theorem f_Land_boundBy {l : Launch} {ld : Nat} {M : gM} {L : gL} {Q : Option Value → gM → gL → gR → Prop} (hld : isLa ld) {Ld0 : Nat} {p1 : Int32} {p2 : Int32} {p3 : Int32} {p4 : Int32} {p5 : Int32} (hLd0 : isLa Ld0) {q : Int32 × gM} (h : F_Land_boundBy Ld0 p1 p2 p3 p4 p5 M = some q) (hQ : Q (some (.int q.1)) q.2 L (rf ld)) : Tm l y_Land_boundBy (0, 0, 447) 447 [.ref Ld0, .int p1, .int p2, .int p3, .int p4, .int p5] M L (rf ld) Q := by
  refine Tm.of (by decide) (Nat.le_of_ble_eq_true rfl) ?_
  show Wp l y_Land_boundBy (0, 0, 447) 447 0 0 0 [(0, .ref Ld0), (1, .int p1), (2, .int p2), (3, .int p3), (4, .int p4), (5, .int p5)] [] M L (rf ld) Q
  unfold F_Land_boundBy at h
  refine g_aload_n (pc1 := 1) d_Land_boundBy_0 rfl 0 rfl ?_
  refine g_getr (pc1 := 4) d_Land_boundBy_1 rfl ⟨_, fo_Land_43⟩ (shLa_0 hLd0) (ltLa_0 hLd0) (rfLa_14 ld hLd0) ?_
  refine g_callV0 (pc1 := 7) (As := []) (rest := []) d_Land_boundBy_4 rfl mo_Land_89 mi_Law_isTold mv_Law_isTold rfl (shLw_0 (isLw_13 hLd0)) (ltLw_0 (isLw_13 hLd0)) (by decide) rfl rfl (Nat.le_of_ble_eq_true rfl) ?_
  obtain ⟨r2, hq1, h⟩ := bnd h
  refine f_Law_isTold hld (isLw_13 hLd0) hq1 ?_
  dsimp only [psh]
  refine g_if_ne (pc1 := 10) (tgt := 21) d_Land_boundBy_7 (by decide) rfl (fun c3 => ?_) (fun c3 => ?_)
  · replace h := itn h c3
    refine g_aload_n (pc1 := 22) d_Land_boundBy_21 rfl 0 rfl ?_
    refine g_getr (pc1 := 25) d_Land_boundBy_22 rfl ⟨_, fo_Land_43⟩ (shLa_0 hLd0) (ltLa_0 hLd0) (rfLa_14 ld hLd0) ?_
    refine g_iconst (pc1 := 26) (v := 0) d_Land_boundBy_25 rfl (by decide) ?_
    refine g_iload_n (pc1 := 27) d_Land_boundBy_26 rfl 3 rfl ?_
    refine g_callV0 (pc1 := 30) (As := [.int 0, .int p3]) (rest := []) d_Land_boundBy_27 rfl mo_Land_97 mi_Law_let mv_Law_let rfl (shLw_0 (isLw_13 hLd0)) (ltLw_0 (isLw_13 hLd0)) (by decide) rfl rfl (Nat.le_of_ble_eq_true rfl) ?_
    obtain ⟨M5, hq4, h⟩ := bnd h
    refine f_Law_let hld (isLw_13 hLd0) hq4 ?_
    dsimp only [psh]
    refine g_aload_n (pc1 := 31) d_Land_boundBy_30 rfl 0 rfl ?_
    refine g_getr (pc1 := 34) d_Land_boundBy_31 rfl ⟨_, fo_Land_43⟩ (shLa_0 hLd0) (ltLa_0 hLd0) (rfLa_14 ld hLd0) ?_
    refine g_iconst (pc1 := 35) (v := 2) d_Land_boundBy_34 rfl (by decide) ?_
    refine g_iload_n (pc1 := 36) d_Land_boundBy_35 rfl 2 rfl ?_
    refine g_callV0 (pc1 := 39) (As := [.int 2, .int p2]) (rest := []) d_Land_boundBy_36 rfl mo_Land_97 mi_Law_let mv_Law_let rfl (shLw_0 (isLw_13 hLd0)) (ltLw_0 (isLw_13 hLd0)) (by decide) rfl rfl (Nat.le_of_ble_eq_true rfl) ?_
    obtain ⟨M7, hq6, h⟩ := bnd h
    refine f_Law_let hld (isLw_13 hLd0) hq6 ?_
    dsimp only [psh]
    refine g_aload_n (pc1 := 40) d_Land_boundBy_39 rfl 0 rfl ?_
    refine g_getr (pc1 := 43) d_Land_boundBy_40 rfl ⟨_, fo_Land_43⟩ (shLa_0 hLd0) (ltLa_0 hLd0) (rfLa_14 ld hLd0) ?_
    refine g_iconst (pc1 := 44) (v := 5) d_Land_boundBy_43 rfl (by decide) ?_
    refine g_aload_n (pc1 := 45) d_Land_boundBy_44 rfl 0 rfl ?_
    refine g_getr (pc1 := 48) d_Land_boundBy_45 rfl ⟨_, fo_Land_27⟩ (shLa_0 hLd0) (ltLa_0 hLd0) (rfLa_10 ld hLd0) ?_
    refine g_iload_n (pc1 := 49) d_Land_boundBy_48 rfl 1 rfl ?_
    refine g_callS0 (pc1 := 52) (As := [.ref (Ld0 + 6), .int p1]) (rest := [.int 5, .ref (Ld0 + 13)]) d_Land_boundBy_49 rfl mo_Land_78 ms_Main_at (by decide) rfl rfl (Nat.le_of_ble_eq_true rfl) ?_
    obtain ⟨r9, hq8, h⟩ := bnd h
    refine f_Main_at hld (shLa_6 hLd0) (ltLa_6 hLd0) (by decide) hq8 ?_
    dsimp only [psh]
    refine g_callV0 (pc1 := 55) (As := [.int 5, .int r9]) (rest := []) d_Land_boundBy_52 rfl mo_Land_97 mi_Law_let mv_Law_let rfl (shLw_0 (isLw_13 hLd0)) (ltLw_0 (isLw_13 hLd0)) (by decide) rfl rfl (Nat.le_of_ble_eq_true rfl) ?_
    obtain ⟨M11, hq10, h⟩ := bnd h
    refine f_Law_let hld (isLw_13 hLd0) hq10 ?_
    dsimp only [psh]
    refine g_aload_n (pc1 := 56) d_Land_boundBy_55 rfl 0 rfl ?_
    refine g_getr (pc1 := 59) d_Land_boundBy_56 rfl ⟨_, fo_Land_43⟩ (shLa_0 hLd0) (ltLa_0 hLd0) (rfLa_14 ld hLd0) ?_
    refine g_bipush (pc1 := 61) (v := 6) d_Land_boundBy_59 rfl (by decide) ?_
    refine g_iload (pc1 := 63) d_Land_boundBy_61 rfl 4 rfl ?_
    refine g_callV0 (pc1 := 66) (As := [.int 6, .int p4]) (rest := []) d_Land_boundBy_63 rfl mo_Land_97 mi_Law_let mv_Law_let rfl (shLw_0 (isLw_13 hLd0)) (ltLw_0 (isLw_13 hLd0)) (by decide) rfl rfl (Nat.le_of_ble_eq_true rfl) ?_
    obtain ⟨M13, hq12, h⟩ := bnd h
    refine f_Law_let hld (isLw_13 hLd0) hq12 ?_
    dsimp only [psh]
    refine g_aload_n (pc1 := 67) d_Land_boundBy_66 rfl 0 rfl ?_
    refine g_getr (pc1 := 70) d_Land_boundBy_67 rfl ⟨_, fo_Land_43⟩ (shLa_0 hLd0) (ltLa_0 hLd0) (rfLa_14 ld hLd0) ?_
    refine g_iconst (pc1 := 71) (v := 4) d_Land_boundBy_70 rfl (by decide) ?_
    refine g_iload (pc1 := 73) d_Land_boundBy_71 rfl 5 rfl ?_
    refine g_callV0 (pc1 := 76) (As := [.int 4, .int p5]) (rest := []) d_Land_boundBy_73 rfl mo_Land_97 mi_Law_let mv_Law_let rfl (shLw_0 (isLw_13 hLd0)) (ltLw_0 (isLw_13 hLd0)) (by decide) rfl rfl (Nat.le_of_ble_eq_true rfl) ?_
    obtain ⟨M15, hq14, h⟩ := bnd h
    refine f_Law_let hld (isLw_13 hLd0) hq14 ?_
    dsimp only [psh]
    refine g_aload_n (pc1 := 77) d_Land_boundBy_76 rfl 0 rfl ?_
    refine g_getr (pc1 := 80) d_Land_boundBy_77 rfl ⟨_, fo_Land_43⟩ (shLa_0 hLd0) (ltLa_0 hLd0) (rfLa_14 ld hLd0) ?_
    refine g_callV0 (pc1 := 83) (As := []) (rest := []) d_Land_boundBy_80 rfl mo_Land_101 mi_Law_value mv_Law_value rfl (shLw_0 (isLw_13 hLd0)) (ltLw_0 (isLw_13 hLd0)) (by decide) rfl rfl (Nat.le_of_ble_eq_true rfl) ?_
    obtain ⟨r17, M18, hq16, h⟩ := bnd2 h
    refine f_Law_value hld (isLw_13 hLd0) hq16 ?_
    dsimp only [psh]
    refine g_iconst (pc1 := 84) (v := 0) d_Land_boundBy_83 rfl (by decide) ?_
    refine g_bipush (pc1 := 86) (v := 99) d_Land_boundBy_84 rfl (by decide) ?_
    refine g_callS0 (pc1 := 89) (As := [.int r17, .int 0, .int 99]) (rest := []) d_Land_boundBy_86 rfl mo_Land_93 ms_Main_within (by decide) rfl rfl (Nat.le_of_ble_eq_true rfl) ?_
    obtain ⟨r20, hq19, h⟩ := bnd h
    refine f_Main_within hld  hq19 ?_
    dsimp only [psh]
    refine g_ireturn (Or.inl rfl) d_Land_boundBy_89 rfl ?_
    cases h; exact hQ
  · replace h := itp h c3
    refine g_iload_n (pc1 := 11) d_Land_boundBy_10 rfl 3 rfl ?_
    refine g_iload (pc1 := 13) d_Land_boundBy_11 rfl 4 rfl ?_
    refine g_isub (pc1 := 14) d_Land_boundBy_13 rfl ?_
    refine g_iconst (pc1 := 15) (v := 0) d_Land_boundBy_14 rfl (by decide) ?_
    refine g_bipush (pc1 := 17) (v := 99) d_Land_boundBy_15 rfl (by decide) ?_
    refine g_callS0 (pc1 := 20) (As := [.int (p3 - p4), .int 0, .int 99]) (rest := []) d_Land_boundBy_17 rfl mo_Land_93 ms_Main_within (by decide) rfl rfl (Nat.le_of_ble_eq_true rfl) ?_
    obtain ⟨r22, hq21, h⟩ := bnd h
    refine f_Main_within hld  hq21 ?_
    dsimp only [psh]
    refine g_ireturn (Or.inl rfl) d_Land_boundBy_20 rfl ?_
    cases h; exact hQ

def F_Land_fillOf (Ld0 : Nat) (p1 : Int32) (p2 : Int32) (p3 : Int32) (M : gM) : Option (Int32 × gM) :=
  bI (F_Law_isTold (Ld0 + 17) M) (fun r2 => (if r2 = 0 then some (0, M) else bI (F_Law_let (Ld0 + 17) 7 p2 M) (fun M5 => bI (F_Main_at (Ld0 + 2) 6 p1 M5) (fun r7 => bI (F_Law_let (Ld0 + 17) 8 r7 M5) (fun M9 => bI (F_Law_let (Ld0 + 17) 2 p1 M9) (fun M11 => bI (F_Law_let (Ld0 + 17) 4 p3 M11) (fun M13 => bI2 (F_Law_value (Ld0 + 17) M13) (fun r15 M16 => bI (F_Main_within r15 (-9) 9) (fun r18 => some (r18, M16))))))))))
set_option maxHeartbeats 4000000 in
set_option maxRecDepth 20000 in
theorem f_Land_fillOf {l : Launch} {ld : Nat} {M : gM} {L : gL} {Q : Option Value → gM → gL → gR → Prop} (hld : isLa ld) {Ld0 : Nat} {p1 : Int32} {p2 : Int32} {p3 : Int32} (hLd0 : isLa Ld0) {q : Int32 × gM} (h : F_Land_fillOf Ld0 p1 p2 p3 M = some q) (hQ : Q (some (.int q.1)) q.2 L (rf ld)) : Tm l y_Land_fillOf (0, 0, 447) 447 [.ref Ld0, .int p1, .int p2, .int p3] M L (rf ld) Q := by
  refine Tm.of (by decide) (Nat.le_of_ble_eq_true rfl) ?_
  show Wp l y_Land_fillOf (0, 0, 447) 447 0 0 0 [(0, .ref Ld0), (1, .int p1), (2, .int p2), (3, .int p3)] [] M L (rf ld) Q
  unfold F_Land_fillOf at h
  refine g_aload_n (pc1 := 1) d_Land_fillOf_0 rfl 0 rfl ?_
  refine g_getr (pc1 := 4) d_Land_fillOf_1 rfl ⟨_, fo_Land_46⟩ (shLa_0 hLd0) (ltLa_0 hLd0) (rfLa_15 ld hLd0) ?_
  refine g_callV0 (pc1 := 7) (As := []) (rest := []) d_Land_fillOf_4 rfl mo_Land_89 mi_Law_isTold mv_Law_isTold rfl (shLw_0 (isLw_17 hLd0)) (ltLw_0 (isLw_17 hLd0)) (by decide) rfl rfl (Nat.le_of_ble_eq_true rfl) ?_
  obtain ⟨r2, hq1, h⟩ := bnd h
  refine f_Law_isTold hld (isLw_17 hLd0) hq1 ?_
  dsimp only [psh]
  refine g_if_ne (pc1 := 10) (tgt := 12) d_Land_fillOf_7 (by decide) rfl (fun c3 => ?_) (fun c3 => ?_)
  · replace h := itn h c3
    refine g_aload_n (pc1 := 13) d_Land_fillOf_12 rfl 0 rfl ?_
    refine g_getr (pc1 := 16) d_Land_fillOf_13 rfl ⟨_, fo_Land_46⟩ (shLa_0 hLd0) (ltLa_0 hLd0) (rfLa_15 ld hLd0) ?_
    refine g_bipush (pc1 := 18) (v := 7) d_Land_fillOf_16 rfl (by decide) ?_
    refine g_iload_n (pc1 := 19) d_Land_fillOf_18 rfl 2 rfl ?_
    refine g_callV0 (pc1 := 22) (As := [.int 7, .int p2]) (rest := []) d_Land_fillOf_19 rfl mo_Land_97 mi_Law_let mv_Law_let rfl (shLw_0 (isLw_17 hLd0)) (ltLw_0 (isLw_17 hLd0)) (by decide) rfl rfl (Nat.le_of_ble_eq_true rfl) ?_
    obtain ⟨M5, hq4, h⟩ := bnd h
    refine f_Law_let hld (isLw_17 hLd0) hq4 ?_
    dsimp only [psh]
    refine g_aload_n (pc1 := 23) d_Land_fillOf_22 rfl 0 rfl ?_
    refine g_getr (pc1 := 26) d_Land_fillOf_23 rfl ⟨_, fo_Land_46⟩ (shLa_0 hLd0) (ltLa_0 hLd0) (rfLa_15 ld hLd0) ?_
    refine g_bipush (pc1 := 28) (v := 8) d_Land_fillOf_26 rfl (by decide) ?_
    refine g_aload_n (pc1 := 29) d_Land_fillOf_28 rfl 0 rfl ?_
    refine g_getr (pc1 := 32) d_Land_fillOf_29 rfl ⟨_, fo_Land_15⟩ (shLa_0 hLd0) (ltLa_0 hLd0) (rfLa_6 ld hLd0) ?_
    refine g_iload_n (pc1 := 33) d_Land_fillOf_32 rfl 1 rfl ?_
    refine g_callS0 (pc1 := 36) (As := [.ref (Ld0 + 2), .int p1]) (rest := [.int 8, .ref (Ld0 + 17)]) d_Land_fillOf_33 rfl mo_Land_78 ms_Main_at (by decide) rfl rfl (Nat.le_of_ble_eq_true rfl) ?_
    obtain ⟨r7, hq6, h⟩ := bnd h
    refine f_Main_at hld (shLa_2 hLd0) (ltLa_2 hLd0) (by decide) hq6 ?_
    dsimp only [psh]
    refine g_callV0 (pc1 := 39) (As := [.int 8, .int r7]) (rest := []) d_Land_fillOf_36 rfl mo_Land_97 mi_Law_let mv_Law_let rfl (shLw_0 (isLw_17 hLd0)) (ltLw_0 (isLw_17 hLd0)) (by decide) rfl rfl (Nat.le_of_ble_eq_true rfl) ?_
    obtain ⟨M9, hq8, h⟩ := bnd h
    refine f_Law_let hld (isLw_17 hLd0) hq8 ?_
    dsimp only [psh]
    refine g_aload_n (pc1 := 40) d_Land_fillOf_39 rfl 0 rfl ?_
    refine g_getr (pc1 := 43) d_Land_fillOf_40 rfl ⟨_, fo_Land_46⟩ (shLa_0 hLd0) (ltLa_0 hLd0) (rfLa_15 ld hLd0) ?_
    refine g_iconst (pc1 := 44) (v := 2) d_Land_fillOf_43 rfl (by decide) ?_
    refine g_iload_n (pc1 := 45) d_Land_fillOf_44 rfl 1 rfl ?_
    refine g_callV0 (pc1 := 48) (As := [.int 2, .int p1]) (rest := []) d_Land_fillOf_45 rfl mo_Land_97 mi_Law_let mv_Law_let rfl (shLw_0 (isLw_17 hLd0)) (ltLw_0 (isLw_17 hLd0)) (by decide) rfl rfl (Nat.le_of_ble_eq_true rfl) ?_
    obtain ⟨M11, hq10, h⟩ := bnd h
    refine f_Law_let hld (isLw_17 hLd0) hq10 ?_
    dsimp only [psh]
    refine g_aload_n (pc1 := 49) d_Land_fillOf_48 rfl 0 rfl ?_
    refine g_getr (pc1 := 52) d_Land_fillOf_49 rfl ⟨_, fo_Land_46⟩ (shLa_0 hLd0) (ltLa_0 hLd0) (rfLa_15 ld hLd0) ?_
    refine g_iconst (pc1 := 53) (v := 4) d_Land_fillOf_52 rfl (by decide) ?_
    refine g_iload_n (pc1 := 54) d_Land_fillOf_53 rfl 3 rfl ?_
    refine g_callV0 (pc1 := 57) (As := [.int 4, .int p3]) (rest := []) d_Land_fillOf_54 rfl mo_Land_97 mi_Law_let mv_Law_let rfl (shLw_0 (isLw_17 hLd0)) (ltLw_0 (isLw_17 hLd0)) (by decide) rfl rfl (Nat.le_of_ble_eq_true rfl) ?_
    obtain ⟨M13, hq12, h⟩ := bnd h
    refine f_Law_let hld (isLw_17 hLd0) hq12 ?_
    dsimp only [psh]
    refine g_aload_n (pc1 := 58) d_Land_fillOf_57 rfl 0 rfl ?_
    refine g_getr (pc1 := 61) d_Land_fillOf_58 rfl ⟨_, fo_Land_46⟩ (shLa_0 hLd0) (ltLa_0 hLd0) (rfLa_15 ld hLd0) ?_
    refine g_callV0 (pc1 := 64) (As := []) (rest := []) d_Land_fillOf_61 rfl mo_Land_101 mi_Law_value mv_Law_value rfl (shLw_0 (isLw_17 hLd0)) (ltLw_0 (isLw_17 hLd0)) (by decide) rfl rfl (Nat.le_of_ble_eq_true rfl) ?_
    obtain ⟨r15, M16, hq14, h⟩ := bnd2 h
    refine f_Law_value hld (isLw_17 hLd0) hq14 ?_
    dsimp only [psh]
    refine g_bipush (pc1 := 66) (v := (-9)) d_Land_fillOf_64 rfl (by decide) ?_
    refine g_bipush (pc1 := 68) (v := 9) d_Land_fillOf_66 rfl (by decide) ?_
    refine g_callS0 (pc1 := 71) (As := [.int r15, .int (-9), .int 9]) (rest := []) d_Land_fillOf_68 rfl mo_Land_93 ms_Main_within (by decide) rfl rfl (Nat.le_of_ble_eq_true rfl) ?_
    obtain ⟨r18, hq17, h⟩ := bnd h
    refine f_Main_within hld  hq17 ?_
    dsimp only [psh]
    refine g_ireturn (Or.inl rfl) d_Land_fillOf_71 rfl ?_
    cases h; exact hQ
  · replace h := itp h c3
    refine g_iconst (pc1 := 11) (v := 0) d_Land_fillOf_10 rfl (by decide) ?_
    refine g_ireturn (Or.inl rfl) d_Land_fillOf_11 rfl ?_
    cases h; exact hQ

def B_Land_manyIn_4 (Ld0 : Nat) (v1 : Int32) (M : gM) (K4 : Int32 → Int32 → Option (Int32)) : Int32 → Int32 → Option (Int32) := fun v2 v3 =>
  (if (M Ld0 0) ≤ v3 then some v2 else bI (F_Land_inDish Ld0 v1 v3 M) (fun r3 => nmI (v2 + r3) (fun x4 => nmI (v3 + 1) (fun x5 => K4 x4 x5))))
def H_Land_manyIn_4 (Ld0 : Nat) (v1 : Int32) (M : gM) : Nat → Int32 → Int32 → Option (Int32) := lpK (B_Land_manyIn_4 Ld0 v1 M) (fun _ _ => none)
set_option maxHeartbeats 4000000 in
set_option maxRecDepth 20000 in
theorem h_Land_manyIn_4 {l : Launch} {ld : Nat} {Q : Option Value → gM → gL → gR → Prop} (hld : isLa ld) {Ld0 : Nat} (hLd0 : isLa Ld0) {q : Int32} {M : gM} {L : gL} (hQ : Q (some (.int q)) M L (rf ld))  {v1 : Int32}  : ∀ (f : Nat) (v2 : Int32) (v3 : Int32), H_Land_manyIn_4 Ld0 v1 M f v2 v3 = some q → Wp l y_Land_manyIn (0, 0, 447) 447 0 0 4 [(0, .ref Ld0), (1, .int v1), (2, .int v2), (3, .int v3)] [] M L (rf ld) Q := by
  intro f
  induction f with
  | zero => intro v2 v3 h; cases h
  | succ f hK4 =>
    intro v2 v3 h
    replace h : B_Land_manyIn_4 Ld0 v1 M (H_Land_manyIn_4 Ld0 v1 M f) v2 v3 = some q := h
    unfold B_Land_manyIn_4 at h
    refine g_iload_n (pc1 := 5) d_Land_manyIn_4 rfl 3 rfl ?_
    refine g_aload_n (pc1 := 6) d_Land_manyIn_5 rfl 0 rfl ?_
    refine g_geti (pc1 := 9) d_Land_manyIn_6 rfl ⟨_, fo_Land_55⟩ (shLa_0 hLd0) (ltLa_0 hLd0) ?_
    refine g_icmp_ge (pc1 := 12) (tgt := 27) d_Land_manyIn_9 (by decide) rfl (fun c1 => ?_) (fun c1 => ?_)
    · replace h := itp h c1
      refine g_iload_n (pc1 := 28) d_Land_manyIn_27 rfl 2 rfl ?_
      refine g_ireturn (Or.inl rfl) d_Land_manyIn_28 rfl ?_
      cases h; exact hQ
    · replace h := itn h c1
      refine g_iload_n (pc1 := 13) d_Land_manyIn_12 rfl 2 rfl ?_
      refine g_aload_n (pc1 := 14) d_Land_manyIn_13 rfl 0 rfl ?_
      refine g_iload_n (pc1 := 15) d_Land_manyIn_14 rfl 1 rfl ?_
      refine g_iload_n (pc1 := 16) d_Land_manyIn_15 rfl 3 rfl ?_
      refine g_callV0 (pc1 := 19) (As := [.int v1, .int v3]) (rest := [.int v2]) d_Land_manyIn_16 rfl mo_Land_82 mi_Land_inDish mv_Land_inDish rfl (shLa_0 hLd0) (ltLa_0 hLd0) (by decide) rfl rfl (Nat.le_of_ble_eq_true rfl) ?_
      obtain ⟨r3, hq2, h⟩ := bnd h
      refine f_Land_inDish hld hLd0 hq2 ?_
      dsimp only [psh]
      refine g_iadd (pc1 := 20) d_Land_manyIn_19 rfl ?_
      refine Wp.lI h (fun x4 h => ?_)
      refine g_istore_n (pc1 := 21) (lv' := [(0, .ref Ld0), (1, .int v1), (2, .int x4), (3, .int v3)]) d_Land_manyIn_20 rfl rfl (by decide) [1, 2, 0, 3] rfl ?_
      obtain ⟨x5, ex5, h⟩ := ltI h
      refine g_iinc (pc1 := 24) (v := x5) (lv' := [(0, .ref Ld0), (1, .int v1), (2, .int x4), (3, .int x5)]) d_Land_manyIn_21 rfl 3 rfl (by rw [ex5]; rfl) (by decide) [1, 2, 3, 0] rfl ?_
      refine g_goto (tgt := 4) d_Land_manyIn_24 (by decide) ?_
      exact hK4 x4 x5 h
def F_Land_manyIn (Ld0 : Nat) (p1 : Int32) (M : gM) : Option (Int32) :=
  H_Land_manyIn_4 Ld0 p1 M FU 0 0
set_option maxHeartbeats 4000000 in
set_option maxRecDepth 20000 in
theorem f_Land_manyIn {l : Launch} {ld : Nat} {M : gM} {L : gL} {Q : Option Value → gM → gL → gR → Prop} (hld : isLa ld) {Ld0 : Nat} {p1 : Int32} (hLd0 : isLa Ld0) {q : Int32} (h : F_Land_manyIn Ld0 p1 M = some q) (hQ : Q (some (.int q)) M L (rf ld)) : Tm l y_Land_manyIn (0, 0, 447) 447 [.ref Ld0, .int p1] M L (rf ld) Q := by
  refine Tm.of (by decide) (Nat.le_of_ble_eq_true rfl) ?_
  show Wp l y_Land_manyIn (0, 0, 447) 447 0 0 0 [(0, .ref Ld0), (1, .int p1)] [] M L (rf ld) Q
  unfold F_Land_manyIn at h
  refine g_iconst (pc1 := 1) (v := 0) d_Land_manyIn_0 rfl (by decide) ?_
  refine g_istore_n (pc1 := 2) (lv' := [(0, .ref Ld0), (1, .int p1), (2, .int 0)]) d_Land_manyIn_1 rfl rfl (by decide) [1, 2, 0] rfl ?_
  refine g_iconst (pc1 := 3) (v := 0) d_Land_manyIn_2 rfl (by decide) ?_
  refine g_istore_n (pc1 := 4) (lv' := [(0, .ref Ld0), (1, .int p1), (2, .int 0), (3, .int 0)]) d_Land_manyIn_3 rfl rfl (by decide) [1, 2, 3, 0] rfl ?_
  exact h_Land_manyIn_4 hld hLd0 hQ  _ 0 0 h

def F_Land_potForce (Ld0 : Nat) (p1 : Int32) (p2 : Int32) (p3 : Int32) (p4 : Int32) (p5 : Int32) (M : gM) : Option (Int32 × gM) :=
  bI (F_Law_isTold (Ld0 + 9) M) (fun r2 => (if r2 = 0 then bI (F_Main_within p2 0 99) (fun r20 => some (r20, M)) else bI (F_Law_let (Ld0 + 9) 0 p2 M) (fun M5 => bI (F_Law_let (Ld0 + 9) 1 p3 M5) (fun M7 => bI (F_Law_let (Ld0 + 9) 2 p1 M7) (fun M9 => bI (F_Law_let (Ld0 + 9) 3 p4 M9) (fun M11 => bI (F_Law_let (Ld0 + 9) 4 p5 M11) (fun M13 => bI2 (F_Law_value (Ld0 + 9) M13) (fun r15 M16 => bI (F_Main_within r15 0 99) (fun r18 => some (r18, M16))))))))))
set_option maxHeartbeats 4000000 in
set_option maxRecDepth 20000 in
theorem f_Land_potForce {l : Launch} {ld : Nat} {M : gM} {L : gL} {Q : Option Value → gM → gL → gR → Prop} (hld : isLa ld) {Ld0 : Nat} {p1 : Int32} {p2 : Int32} {p3 : Int32} {p4 : Int32} {p5 : Int32} (hLd0 : isLa Ld0) {q : Int32 × gM} (h : F_Land_potForce Ld0 p1 p2 p3 p4 p5 M = some q) (hQ : Q (some (.int q.1)) q.2 L (rf ld)) : Tm l y_Land_potForce (0, 0, 447) 447 [.ref Ld0, .int p1, .int p2, .int p3, .int p4, .int p5] M L (rf ld) Q := by
  refine Tm.of (by decide) (Nat.le_of_ble_eq_true rfl) ?_
  show Wp l y_Land_potForce (0, 0, 447) 447 0 0 0 [(0, .ref Ld0), (1, .int p1), (2, .int p2), (3, .int p3), (4, .int p4), (5, .int p5)] [] M L (rf ld) Q
  unfold F_Land_potForce at h
  refine g_aload_n (pc1 := 1) d_Land_potForce_0 rfl 0 rfl ?_
  refine g_getr (pc1 := 4) d_Land_potForce_1 rfl ⟨_, fo_Land_39⟩ (shLa_0 hLd0) (ltLa_0 hLd0) (rfLa_13 ld hLd0) ?_
  refine g_callV0 (pc1 := 7) (As := []) (rest := []) d_Land_potForce_4 rfl mo_Land_89 mi_Law_isTold mv_Law_isTold rfl (shLw_0 (isLw_9 hLd0)) (ltLw_0 (isLw_9 hLd0)) (by decide) rfl rfl (Nat.le_of_ble_eq_true rfl) ?_
  obtain ⟨r2, hq1, h⟩ := bnd h
  refine f_Law_isTold hld (isLw_9 hLd0) hq1 ?_
  dsimp only [psh]
  refine g_if_ne (pc1 := 10) (tgt := 18) d_Land_potForce_7 (by decide) rfl (fun c3 => ?_) (fun c3 => ?_)
  · replace h := itn h c3
    refine g_aload_n (pc1 := 19) d_Land_potForce_18 rfl 0 rfl ?_
    refine g_getr (pc1 := 22) d_Land_potForce_19 rfl ⟨_, fo_Land_39⟩ (shLa_0 hLd0) (ltLa_0 hLd0) (rfLa_13 ld hLd0) ?_
    refine g_iconst (pc1 := 23) (v := 0) d_Land_potForce_22 rfl (by decide) ?_
    refine g_iload_n (pc1 := 24) d_Land_potForce_23 rfl 2 rfl ?_
    refine g_callV0 (pc1 := 27) (As := [.int 0, .int p2]) (rest := []) d_Land_potForce_24 rfl mo_Land_97 mi_Law_let mv_Law_let rfl (shLw_0 (isLw_9 hLd0)) (ltLw_0 (isLw_9 hLd0)) (by decide) rfl rfl (Nat.le_of_ble_eq_true rfl) ?_
    obtain ⟨M5, hq4, h⟩ := bnd h
    refine f_Law_let hld (isLw_9 hLd0) hq4 ?_
    dsimp only [psh]
    refine g_aload_n (pc1 := 28) d_Land_potForce_27 rfl 0 rfl ?_
    refine g_getr (pc1 := 31) d_Land_potForce_28 rfl ⟨_, fo_Land_39⟩ (shLa_0 hLd0) (ltLa_0 hLd0) (rfLa_13 ld hLd0) ?_
    refine g_iconst (pc1 := 32) (v := 1) d_Land_potForce_31 rfl (by decide) ?_
    refine g_iload_n (pc1 := 33) d_Land_potForce_32 rfl 3 rfl ?_
    refine g_callV0 (pc1 := 36) (As := [.int 1, .int p3]) (rest := []) d_Land_potForce_33 rfl mo_Land_97 mi_Law_let mv_Law_let rfl (shLw_0 (isLw_9 hLd0)) (ltLw_0 (isLw_9 hLd0)) (by decide) rfl rfl (Nat.le_of_ble_eq_true rfl) ?_
    obtain ⟨M7, hq6, h⟩ := bnd h
    refine f_Law_let hld (isLw_9 hLd0) hq6 ?_
    dsimp only [psh]
    refine g_aload_n (pc1 := 37) d_Land_potForce_36 rfl 0 rfl ?_
    refine g_getr (pc1 := 40) d_Land_potForce_37 rfl ⟨_, fo_Land_39⟩ (shLa_0 hLd0) (ltLa_0 hLd0) (rfLa_13 ld hLd0) ?_
    refine g_iconst (pc1 := 41) (v := 2) d_Land_potForce_40 rfl (by decide) ?_
    refine g_iload_n (pc1 := 42) d_Land_potForce_41 rfl 1 rfl ?_
    refine g_callV0 (pc1 := 45) (As := [.int 2, .int p1]) (rest := []) d_Land_potForce_42 rfl mo_Land_97 mi_Law_let mv_Law_let rfl (shLw_0 (isLw_9 hLd0)) (ltLw_0 (isLw_9 hLd0)) (by decide) rfl rfl (Nat.le_of_ble_eq_true rfl) ?_
    obtain ⟨M9, hq8, h⟩ := bnd h
    refine f_Law_let hld (isLw_9 hLd0) hq8 ?_
    dsimp only [psh]
    refine g_aload_n (pc1 := 46) d_Land_potForce_45 rfl 0 rfl ?_
    refine g_getr (pc1 := 49) d_Land_potForce_46 rfl ⟨_, fo_Land_39⟩ (shLa_0 hLd0) (ltLa_0 hLd0) (rfLa_13 ld hLd0) ?_
    refine g_iconst (pc1 := 50) (v := 3) d_Land_potForce_49 rfl (by decide) ?_
    refine g_iload (pc1 := 52) d_Land_potForce_50 rfl 4 rfl ?_
    refine g_callV0 (pc1 := 55) (As := [.int 3, .int p4]) (rest := []) d_Land_potForce_52 rfl mo_Land_97 mi_Law_let mv_Law_let rfl (shLw_0 (isLw_9 hLd0)) (ltLw_0 (isLw_9 hLd0)) (by decide) rfl rfl (Nat.le_of_ble_eq_true rfl) ?_
    obtain ⟨M11, hq10, h⟩ := bnd h
    refine f_Law_let hld (isLw_9 hLd0) hq10 ?_
    dsimp only [psh]
    refine g_aload_n (pc1 := 56) d_Land_potForce_55 rfl 0 rfl ?_
    refine g_getr (pc1 := 59) d_Land_potForce_56 rfl ⟨_, fo_Land_39⟩ (shLa_0 hLd0) (ltLa_0 hLd0) (rfLa_13 ld hLd0) ?_
    refine g_iconst (pc1 := 60) (v := 4) d_Land_potForce_59 rfl (by decide) ?_
    refine g_iload (pc1 := 62) d_Land_potForce_60 rfl 5 rfl ?_
    refine g_callV0 (pc1 := 65) (As := [.int 4, .int p5]) (rest := []) d_Land_potForce_62 rfl mo_Land_97 mi_Law_let mv_Law_let rfl (shLw_0 (isLw_9 hLd0)) (ltLw_0 (isLw_9 hLd0)) (by decide) rfl rfl (Nat.le_of_ble_eq_true rfl) ?_
    obtain ⟨M13, hq12, h⟩ := bnd h
    refine f_Law_let hld (isLw_9 hLd0) hq12 ?_
    dsimp only [psh]
    refine g_aload_n (pc1 := 66) d_Land_potForce_65 rfl 0 rfl ?_
    refine g_getr (pc1 := 69) d_Land_potForce_66 rfl ⟨_, fo_Land_39⟩ (shLa_0 hLd0) (ltLa_0 hLd0) (rfLa_13 ld hLd0) ?_
    refine g_callV0 (pc1 := 72) (As := []) (rest := []) d_Land_potForce_69 rfl mo_Land_101 mi_Law_value mv_Law_value rfl (shLw_0 (isLw_9 hLd0)) (ltLw_0 (isLw_9 hLd0)) (by decide) rfl rfl (Nat.le_of_ble_eq_true rfl) ?_
    obtain ⟨r15, M16, hq14, h⟩ := bnd2 h
    refine f_Law_value hld (isLw_9 hLd0) hq14 ?_
    dsimp only [psh]
    refine g_iconst (pc1 := 73) (v := 0) d_Land_potForce_72 rfl (by decide) ?_
    refine g_bipush (pc1 := 75) (v := 99) d_Land_potForce_73 rfl (by decide) ?_
    refine g_callS0 (pc1 := 78) (As := [.int r15, .int 0, .int 99]) (rest := []) d_Land_potForce_75 rfl mo_Land_93 ms_Main_within (by decide) rfl rfl (Nat.le_of_ble_eq_true rfl) ?_
    obtain ⟨r18, hq17, h⟩ := bnd h
    refine f_Main_within hld  hq17 ?_
    dsimp only [psh]
    refine g_ireturn (Or.inl rfl) d_Land_potForce_78 rfl ?_
    cases h; exact hQ
  · replace h := itp h c3
    refine g_iload_n (pc1 := 11) d_Land_potForce_10 rfl 2 rfl ?_
    refine g_iconst (pc1 := 12) (v := 0) d_Land_potForce_11 rfl (by decide) ?_
    refine g_bipush (pc1 := 14) (v := 99) d_Land_potForce_12 rfl (by decide) ?_
    refine g_callS0 (pc1 := 17) (As := [.int p2, .int 0, .int 99]) (rest := []) d_Land_potForce_14 rfl mo_Land_93 ms_Main_within (by decide) rfl rfl (Nat.le_of_ble_eq_true rfl) ?_
    obtain ⟨r20, hq19, h⟩ := bnd h
    refine f_Main_within hld  hq19 ?_
    dsimp only [psh]
    refine g_ireturn (Or.inl rfl) d_Land_potForce_17 rfl ?_
    cases h; exact hQ

def B_Land_priceOf_4 (Ld0 : Nat) (v1 : Int32) (M : gM) (K4 : Int32 → Int32 → Option (Int32)) : Int32 → Int32 → Option (Int32) := fun v2 v3 =>
  (if (M Ld0 0) ≤ v3 then some v2 else bI (F_Land_inDish Ld0 v1 v3 M) (fun r3 => bI (F_Main_at (Ld0 + 2) 6 v3 M) (fun r5 => nmI (v2 + (r3 * r5)) (fun x6 => nmI (v3 + 1) (fun x7 => K4 x6 x7)))))
def H_Land_priceOf_4 (Ld0 : Nat) (v1 : Int32) (M : gM) : Nat → Int32 → Int32 → Option (Int32) := lpK (B_Land_priceOf_4 Ld0 v1 M) (fun _ _ => none)
set_option maxHeartbeats 4000000 in
set_option maxRecDepth 20000 in
theorem h_Land_priceOf_4 {l : Launch} {ld : Nat} {Q : Option Value → gM → gL → gR → Prop} (hld : isLa ld) {Ld0 : Nat} (hLd0 : isLa Ld0) {q : Int32} {M : gM} {L : gL} (hQ : Q (some (.int q)) M L (rf ld))  {v1 : Int32}  : ∀ (f : Nat) (v2 : Int32) (v3 : Int32), H_Land_priceOf_4 Ld0 v1 M f v2 v3 = some q → Wp l y_Land_priceOf (0, 0, 447) 447 0 0 4 [(0, .ref Ld0), (1, .int v1), (2, .int v2), (3, .int v3)] [] M L (rf ld) Q := by
  intro f
  induction f with
  | zero => intro v2 v3 h; cases h
  | succ f hK4 =>
    intro v2 v3 h
    replace h : B_Land_priceOf_4 Ld0 v1 M (H_Land_priceOf_4 Ld0 v1 M f) v2 v3 = some q := h
    unfold B_Land_priceOf_4 at h
    refine g_iload_n (pc1 := 5) d_Land_priceOf_4 rfl 3 rfl ?_
    refine g_aload_n (pc1 := 6) d_Land_priceOf_5 rfl 0 rfl ?_
    refine g_geti (pc1 := 9) d_Land_priceOf_6 rfl ⟨_, fo_Land_55⟩ (shLa_0 hLd0) (ltLa_0 hLd0) ?_
    refine g_icmp_ge (pc1 := 12) (tgt := 36) d_Land_priceOf_9 (by decide) rfl (fun c1 => ?_) (fun c1 => ?_)
    · replace h := itp h c1
      refine g_iload_n (pc1 := 37) d_Land_priceOf_36 rfl 2 rfl ?_
      refine g_ireturn (Or.inl rfl) d_Land_priceOf_37 rfl ?_
      cases h; exact hQ
    · replace h := itn h c1
      refine g_iload_n (pc1 := 13) d_Land_priceOf_12 rfl 2 rfl ?_
      refine g_aload_n (pc1 := 14) d_Land_priceOf_13 rfl 0 rfl ?_
      refine g_iload_n (pc1 := 15) d_Land_priceOf_14 rfl 1 rfl ?_
      refine g_iload_n (pc1 := 16) d_Land_priceOf_15 rfl 3 rfl ?_
      refine g_callV0 (pc1 := 19) (As := [.int v1, .int v3]) (rest := [.int v2]) d_Land_priceOf_16 rfl mo_Land_82 mi_Land_inDish mv_Land_inDish rfl (shLa_0 hLd0) (ltLa_0 hLd0) (by decide) rfl rfl (Nat.le_of_ble_eq_true rfl) ?_
      obtain ⟨r3, hq2, h⟩ := bnd h
      refine f_Land_inDish hld hLd0 hq2 ?_
      dsimp only [psh]
      refine g_aload_n (pc1 := 20) d_Land_priceOf_19 rfl 0 rfl ?_
      refine g_getr (pc1 := 23) d_Land_priceOf_20 rfl ⟨_, fo_Land_15⟩ (shLa_0 hLd0) (ltLa_0 hLd0) (rfLa_6 ld hLd0) ?_
      refine g_iload_n (pc1 := 24) d_Land_priceOf_23 rfl 3 rfl ?_
      refine g_callS0 (pc1 := 27) (As := [.ref (Ld0 + 2), .int v3]) (rest := [.int r3, .int v2]) d_Land_priceOf_24 rfl mo_Land_78 ms_Main_at (by decide) rfl rfl (Nat.le_of_ble_eq_true rfl) ?_
      obtain ⟨r5, hq4, h⟩ := bnd h
      refine f_Main_at hld (shLa_2 hLd0) (ltLa_2 hLd0) (by decide) hq4 ?_
      dsimp only [psh]
      refine g_imul (pc1 := 28) d_Land_priceOf_27 rfl ?_
      refine g_iadd (pc1 := 29) d_Land_priceOf_28 rfl ?_
      refine Wp.lI h (fun x6 h => ?_)
      refine g_istore_n (pc1 := 30) (lv' := [(0, .ref Ld0), (1, .int v1), (2, .int x6), (3, .int v3)]) d_Land_priceOf_29 rfl rfl (by decide) [1, 2, 0, 3] rfl ?_
      obtain ⟨x7, ex7, h⟩ := ltI h
      refine g_iinc (pc1 := 33) (v := x7) (lv' := [(0, .ref Ld0), (1, .int v1), (2, .int x6), (3, .int x7)]) d_Land_priceOf_30 rfl 3 rfl (by rw [ex7]; rfl) (by decide) [1, 2, 3, 0] rfl ?_
      refine g_goto (tgt := 4) d_Land_priceOf_33 (by decide) ?_
      exact hK4 x6 x7 h
def F_Land_priceOf (Ld0 : Nat) (p1 : Int32) (M : gM) : Option (Int32) :=
  H_Land_priceOf_4 Ld0 p1 M FU 0 0
set_option maxHeartbeats 4000000 in
set_option maxRecDepth 20000 in
theorem f_Land_priceOf {l : Launch} {ld : Nat} {M : gM} {L : gL} {Q : Option Value → gM → gL → gR → Prop} (hld : isLa ld) {Ld0 : Nat} {p1 : Int32} (hLd0 : isLa Ld0) {q : Int32} (h : F_Land_priceOf Ld0 p1 M = some q) (hQ : Q (some (.int q)) M L (rf ld)) : Tm l y_Land_priceOf (0, 0, 447) 447 [.ref Ld0, .int p1] M L (rf ld) Q := by
  refine Tm.of (by decide) (Nat.le_of_ble_eq_true rfl) ?_
  show Wp l y_Land_priceOf (0, 0, 447) 447 0 0 0 [(0, .ref Ld0), (1, .int p1)] [] M L (rf ld) Q
  unfold F_Land_priceOf at h
  refine g_iconst (pc1 := 1) (v := 0) d_Land_priceOf_0 rfl (by decide) ?_
  refine g_istore_n (pc1 := 2) (lv' := [(0, .ref Ld0), (1, .int p1), (2, .int 0)]) d_Land_priceOf_1 rfl rfl (by decide) [1, 2, 0] rfl ?_
  refine g_iconst (pc1 := 3) (v := 0) d_Land_priceOf_2 rfl (by decide) ?_
  refine g_istore_n (pc1 := 4) (lv' := [(0, .ref Ld0), (1, .int p1), (2, .int 0), (3, .int 0)]) d_Land_priceOf_3 rfl rfl (by decide) [1, 2, 3, 0] rfl ?_
  exact h_Land_priceOf_4 hld hLd0 hQ  _ 0 0 h

def B_Land_sumOf_5 (Ld0 : Nat) (v1 : Int32) (v2 : Int32) (M : gM) (K5 : Int32 → Int32 → Option (Int32)) : Int32 → Int32 → Option (Int32) := fun v3 v4 =>
  (if (M Ld0 0) ≤ v4 then some v3 else bI (F_Land_inDish Ld0 v1 v4 M) (fun r3 => bI (F_Land_broughtBy Ld0 v4 v2 M) (fun r5 => nmI (v3 + (r3 * r5)) (fun x6 => nmI (v4 + 1) (fun x7 => K5 x6 x7)))))
def H_Land_sumOf_5 (Ld0 : Nat) (v1 : Int32) (v2 : Int32) (M : gM) : Nat → Int32 → Int32 → Option (Int32) := lpK (B_Land_sumOf_5 Ld0 v1 v2 M) (fun _ _ => none)
set_option maxHeartbeats 4000000 in
set_option maxRecDepth 20000 in
theorem h_Land_sumOf_5 {l : Launch} {ld : Nat} {Q : Option Value → gM → gL → gR → Prop} (hld : isLa ld) {Ld0 : Nat} (hLd0 : isLa Ld0) {q : Int32} {M : gM} {L : gL} (hQ : Q (some (.int q)) M L (rf ld))  {v1 : Int32} {v2 : Int32}  : ∀ (f : Nat) (v3 : Int32) (v4 : Int32), H_Land_sumOf_5 Ld0 v1 v2 M f v3 v4 = some q → Wp l y_Land_sumOf (0, 0, 447) 447 0 0 5 [(0, .ref Ld0), (1, .int v1), (2, .int v2), (3, .int v3), (4, .int v4)] [] M L (rf ld) Q := by
  intro f
  induction f with
  | zero => intro v3 v4 h; cases h
  | succ f hK5 =>
    intro v3 v4 h
    replace h : B_Land_sumOf_5 Ld0 v1 v2 M (H_Land_sumOf_5 Ld0 v1 v2 M f) v3 v4 = some q := h
    unfold B_Land_sumOf_5 at h
    refine g_iload (pc1 := 7) d_Land_sumOf_5 rfl 4 rfl ?_
    refine g_aload_n (pc1 := 8) d_Land_sumOf_7 rfl 0 rfl ?_
    refine g_geti (pc1 := 11) d_Land_sumOf_8 rfl ⟨_, fo_Land_55⟩ (shLa_0 hLd0) (ltLa_0 hLd0) ?_
    refine g_icmp_ge (pc1 := 14) (tgt := 38) d_Land_sumOf_11 (by decide) rfl (fun c1 => ?_) (fun c1 => ?_)
    · replace h := itp h c1
      refine g_iload_n (pc1 := 39) d_Land_sumOf_38 rfl 3 rfl ?_
      refine g_ireturn (Or.inl rfl) d_Land_sumOf_39 rfl ?_
      cases h; exact hQ
    · replace h := itn h c1
      refine g_iload_n (pc1 := 15) d_Land_sumOf_14 rfl 3 rfl ?_
      refine g_aload_n (pc1 := 16) d_Land_sumOf_15 rfl 0 rfl ?_
      refine g_iload_n (pc1 := 17) d_Land_sumOf_16 rfl 1 rfl ?_
      refine g_iload (pc1 := 19) d_Land_sumOf_17 rfl 4 rfl ?_
      refine g_callV0 (pc1 := 22) (As := [.int v1, .int v4]) (rest := [.int v3]) d_Land_sumOf_19 rfl mo_Land_82 mi_Land_inDish mv_Land_inDish rfl (shLa_0 hLd0) (ltLa_0 hLd0) (by decide) rfl rfl (Nat.le_of_ble_eq_true rfl) ?_
      obtain ⟨r3, hq2, h⟩ := bnd h
      refine f_Land_inDish hld hLd0 hq2 ?_
      dsimp only [psh]
      refine g_aload_n (pc1 := 23) d_Land_sumOf_22 rfl 0 rfl ?_
      refine g_iload (pc1 := 25) d_Land_sumOf_23 rfl 4 rfl ?_
      refine g_iload_n (pc1 := 26) d_Land_sumOf_25 rfl 2 rfl ?_
      refine g_callV0 (pc1 := 29) (As := [.int v4, .int v2]) (rest := [.int r3, .int v3]) d_Land_sumOf_26 rfl mo_Land_86 mi_Land_broughtBy mv_Land_broughtBy rfl (shLa_0 hLd0) (ltLa_0 hLd0) (by decide) rfl rfl (Nat.le_of_ble_eq_true rfl) ?_
      obtain ⟨r5, hq4, h⟩ := bnd h
      refine f_Land_broughtBy hld hLd0 hq4 ?_
      dsimp only [psh]
      refine g_imul (pc1 := 30) d_Land_sumOf_29 rfl ?_
      refine g_iadd (pc1 := 31) d_Land_sumOf_30 rfl ?_
      refine Wp.lI h (fun x6 h => ?_)
      refine g_istore_n (pc1 := 32) (lv' := [(0, .ref Ld0), (1, .int v1), (2, .int v2), (3, .int x6), (4, .int v4)]) d_Land_sumOf_31 rfl rfl (by decide) [1, 2, 3, 0, 4] rfl ?_
      obtain ⟨x7, ex7, h⟩ := ltI h
      refine g_iinc (pc1 := 35) (v := x7) (lv' := [(0, .ref Ld0), (1, .int v1), (2, .int v2), (3, .int x6), (4, .int x7)]) d_Land_sumOf_32 rfl 4 rfl (by rw [ex7]; rfl) (by decide) [1, 2, 3, 4, 0] rfl ?_
      refine g_goto (tgt := 5) d_Land_sumOf_35 (by decide) ?_
      exact hK5 x6 x7 h
def F_Land_sumOf (Ld0 : Nat) (p1 : Int32) (p2 : Int32) (M : gM) : Option (Int32) :=
  H_Land_sumOf_5 Ld0 p1 p2 M FU 0 0
set_option maxHeartbeats 4000000 in
set_option maxRecDepth 20000 in
theorem f_Land_sumOf {l : Launch} {ld : Nat} {M : gM} {L : gL} {Q : Option Value → gM → gL → gR → Prop} (hld : isLa ld) {Ld0 : Nat} {p1 : Int32} {p2 : Int32} (hLd0 : isLa Ld0) {q : Int32} (h : F_Land_sumOf Ld0 p1 p2 M = some q) (hQ : Q (some (.int q)) M L (rf ld)) : Tm l y_Land_sumOf (0, 0, 447) 447 [.ref Ld0, .int p1, .int p2] M L (rf ld) Q := by
  refine Tm.of (by decide) (Nat.le_of_ble_eq_true rfl) ?_
  show Wp l y_Land_sumOf (0, 0, 447) 447 0 0 0 [(0, .ref Ld0), (1, .int p1), (2, .int p2)] [] M L (rf ld) Q
  unfold F_Land_sumOf at h
  refine g_iconst (pc1 := 1) (v := 0) d_Land_sumOf_0 rfl (by decide) ?_
  refine g_istore_n (pc1 := 2) (lv' := [(0, .ref Ld0), (1, .int p1), (2, .int p2), (3, .int 0)]) d_Land_sumOf_1 rfl rfl (by decide) [1, 2, 3, 0] rfl ?_
  refine g_iconst (pc1 := 3) (v := 0) d_Land_sumOf_2 rfl (by decide) ?_
  refine g_istore (pc1 := 5) (lv' := [(0, .ref Ld0), (1, .int p1), (2, .int p2), (3, .int 0), (4, .int 0)]) d_Land_sumOf_3 rfl (by decide) [1, 2, 3, 4, 0] rfl ?_
  exact h_Land_sumOf_5 hld hLd0 hQ  _ 0 0 h

def J_MenuSearch_mealsIfAllFree_44 (K10 : Int32 → Int32 → Int32 → Int32 → Option (Int32)) (v1 : Int32) (v2 : Int32) (v3 : Int32) (v4 : Int32) (v5 : Int32) (M : gM) : Option (Int32) :=
  bI (F_MenuSearch_isFree v5 v3 v4 M) (fun r6 => (if r6 = 0 then some (-1) else nmI (v5 + 1) (fun x8 => K10 v2 v3 v4 x8)))
set_option maxHeartbeats 4000000 in
set_option maxRecDepth 20000 in
theorem j_MenuSearch_mealsIfAllFree_44 {l : Launch} {ld : Nat} {Q : Option Value → gM → gL → gR → Prop} (hld : isLa ld)   {q : Int32} {M : gM} {L : gL} (hQ : Q (some (.int q)) M L (rf ld)) {K10 : Int32 → Int32 → Int32 → Int32 → Option (Int32)} {v1 : Int32} {v2 : Int32} {v3 : Int32} {v4 : Int32} {v5 : Int32} (hK10 : ∀ (w2 : Int32) (w3 : Int32) (w4 : Int32) (w5 : Int32), K10 w2 w3 w4 w5 = some q → Wp l y_MenuSearch_mealsIfAllFree (0, 0, 447) 447 0 0 10 [(0, .ref 396), (1, .int v1), (2, .int w2), (3, .int w3), (4, .int w4), (5, .int w5)] [] M L (rf ld) Q) (h : J_MenuSearch_mealsIfAllFree_44 K10 v1 v2 v3 v4 v5 M = some q) : Wp l y_MenuSearch_mealsIfAllFree (0, 0, 447) 447 0 0 44 [(0, .ref 396), (1, .int v1), (2, .int v2), (3, .int v3), (4, .int v4), (5, .int v5)] [] M L (rf ld) Q := by
  unfold J_MenuSearch_mealsIfAllFree_44 at h
  refine g_aload_n (pc1 := 45) d_MenuSearch_mealsIfAllFree_44 rfl 0 rfl ?_
  refine g_iload (pc1 := 47) d_MenuSearch_mealsIfAllFree_45 rfl 5 rfl ?_
  refine g_iload_n (pc1 := 48) d_MenuSearch_mealsIfAllFree_47 rfl 3 rfl ?_
  refine g_iload (pc1 := 50) d_MenuSearch_mealsIfAllFree_48 rfl 4 rfl ?_
  refine g_callV0 (pc1 := 53) (As := [.int v5, .int v3, .int v4]) (rest := []) d_MenuSearch_mealsIfAllFree_50 rfl mo_MenuSearch_79 mi_MenuSearch_isFree mv_MenuSearch_isFree rfl sh_396 (by decide) (by decide) rfl rfl (Nat.le_of_ble_eq_true rfl) ?_
  obtain ⟨r6, hq5, h⟩ := bnd h
  refine f_MenuSearch_isFree hld  hq5 ?_
  dsimp only [psh]
  refine g_if_ne (pc1 := 56) (tgt := 58) d_MenuSearch_mealsIfAllFree_53 (by decide) rfl (fun c7 => ?_) (fun c7 => ?_)
  · replace h := itn h c7
    obtain ⟨x8, ex8, h⟩ := ltI h
    refine g_iinc (pc1 := 61) (v := x8) (lv' := [(0, .ref 396), (1, .int v1), (2, .int v2), (3, .int v3), (4, .int v4), (5, .int x8)]) d_MenuSearch_mealsIfAllFree_58 rfl 5 rfl (by rw [ex8]; rfl) (by decide) [1, 2, 3, 4, 5, 0] rfl ?_
    refine g_goto (tgt := 10) d_MenuSearch_mealsIfAllFree_61 (by decide) ?_
    exact hK10 v2 v3 v4 x8 h
  · replace h := itp h c7
    refine g_iconst (pc1 := 57) (v := (-1)) d_MenuSearch_mealsIfAllFree_56 rfl (by decide) ?_
    refine g_ireturn (Or.inl rfl) d_MenuSearch_mealsIfAllFree_57 rfl ?_
    cases h; exact hQ
def B_MenuSearch_mealsIfAllFree_10 (v1 : Int32) (M : gM) (K10 : Int32 → Int32 → Int32 → Int32 → Option (Int32)) : Int32 → Int32 → Int32 → Int32 → Option (Int32) := fun v2 v3 v4 v5 =>
  (if v1 ≤ v5 then some v2 else bI (F_Main_at 399 4 v5 M) (fun r3 => (if r3 ≤ 0 then J_MenuSearch_mealsIfAllFree_44 K10 v1 v2 v3 v4 v5 M else nmI (v2 + 1) (fun x9 => nmI (r3 - 1) (fun x10 => J_MenuSearch_mealsIfAllFree_44 K10 v1 x9 v5 x10 v5 M)))))
def H_MenuSearch_mealsIfAllFree_10 (v1 : Int32) (M : gM) : Nat → Int32 → Int32 → Int32 → Int32 → Option (Int32) := lpK (B_MenuSearch_mealsIfAllFree_10 v1 M) (fun _ _ _ _ => none)
set_option maxHeartbeats 4000000 in
set_option maxRecDepth 20000 in
theorem h_MenuSearch_mealsIfAllFree_10 {l : Launch} {ld : Nat} {Q : Option Value → gM → gL → gR → Prop} (hld : isLa ld)   {q : Int32} {M : gM} {L : gL} (hQ : Q (some (.int q)) M L (rf ld))  {v1 : Int32}  : ∀ (f : Nat) (v2 : Int32) (v3 : Int32) (v4 : Int32) (v5 : Int32), H_MenuSearch_mealsIfAllFree_10 v1 M f v2 v3 v4 v5 = some q → Wp l y_MenuSearch_mealsIfAllFree (0, 0, 447) 447 0 0 10 [(0, .ref 396), (1, .int v1), (2, .int v2), (3, .int v3), (4, .int v4), (5, .int v5)] [] M L (rf ld) Q := by
  intro f
  induction f with
  | zero => intro v2 v3 v4 v5 h; cases h
  | succ f hK10 =>
    intro v2 v3 v4 v5 h
    replace h : B_MenuSearch_mealsIfAllFree_10 v1 M (H_MenuSearch_mealsIfAllFree_10 v1 M f) v2 v3 v4 v5 = some q := h
    unfold B_MenuSearch_mealsIfAllFree_10 at h
    refine g_iload (pc1 := 12) d_MenuSearch_mealsIfAllFree_10 rfl 5 rfl ?_
    refine g_iload_n (pc1 := 13) d_MenuSearch_mealsIfAllFree_12 rfl 1 rfl ?_
    refine g_icmp_ge (pc1 := 16) (tgt := 64) d_MenuSearch_mealsIfAllFree_13 (by decide) rfl (fun c1 => ?_) (fun c1 => ?_)
    · replace h := itp h c1
      refine g_iload_n (pc1 := 65) d_MenuSearch_mealsIfAllFree_64 rfl 2 rfl ?_
      refine g_ireturn (Or.inl rfl) d_MenuSearch_mealsIfAllFree_65 rfl ?_
      cases h; exact hQ
    · replace h := itn h c1
      refine g_aload_n (pc1 := 17) d_MenuSearch_mealsIfAllFree_16 rfl 0 rfl ?_
      refine g_getr (pc1 := 20) d_MenuSearch_mealsIfAllFree_17 rfl ⟨_, fo_MenuSearch_18⟩ sh_396 (by decide) (rf_396_2 ld) ?_
      refine g_iload (pc1 := 22) d_MenuSearch_mealsIfAllFree_20 rfl 5 rfl ?_
      refine g_callS0 (pc1 := 25) (As := [.ref 399, .int v5]) (rest := []) d_MenuSearch_mealsIfAllFree_22 rfl mo_MenuSearch_75 ms_Main_at (by decide) rfl rfl (Nat.le_of_ble_eq_true rfl) ?_
      obtain ⟨r3, hq2, h⟩ := bnd h
      refine f_Main_at hld sh_399 (by decide) (by decide) hq2 ?_
      dsimp only [psh]
      refine g_istore (pc1 := 27) (lv' := [(0, .ref 396), (1, .int v1), (2, .int v2), (3, .int v3), (4, .int v4), (5, .int v5), (6, .int r3)]) d_MenuSearch_mealsIfAllFree_25 rfl (by decide) [1, 2, 3, 4, 5, 6, 0] rfl ?_
      refine g_iload (pc1 := 29) d_MenuSearch_mealsIfAllFree_27 rfl 6 rfl ?_
      refine g_if_le (pc1 := 32) (tgt := 44) d_MenuSearch_mealsIfAllFree_29 (by decide) rfl (fun c4 => ?_) (fun c4 => ?_)
      · replace h := itp h c4
        refine Wp.loc (lv' := [(0, .ref 396), (1, .int v1), (2, .int v2), (3, .int v3), (4, .int v4), (5, .int v5)]) [0, 1, 2, 3, 4, 5] rfl ?_
        exact j_MenuSearch_mealsIfAllFree_44 hld  hQ hK10 h
      · replace h := itn h c4
        obtain ⟨x9, ex9, h⟩ := ltI h
        refine g_iinc (pc1 := 35) (v := x9) (lv' := [(0, .ref 396), (1, .int v1), (2, .int x9), (3, .int v3), (4, .int v4), (5, .int v5), (6, .int r3)]) d_MenuSearch_mealsIfAllFree_32 rfl 2 rfl (by rw [ex9]; rfl) (by decide) [1, 2, 0, 3, 4, 5, 6] rfl ?_
        refine g_iload (pc1 := 37) d_MenuSearch_mealsIfAllFree_35 rfl 5 rfl ?_
        refine g_istore_n (pc1 := 38) (lv' := [(0, .ref 396), (1, .int v1), (2, .int x9), (3, .int v5), (4, .int v4), (5, .int v5), (6, .int r3)]) d_MenuSearch_mealsIfAllFree_37 rfl rfl (by decide) [1, 2, 3, 0, 4, 5, 6] rfl ?_
        refine g_iload (pc1 := 40) d_MenuSearch_mealsIfAllFree_38 rfl 6 rfl ?_
        refine g_iconst (pc1 := 41) (v := 1) d_MenuSearch_mealsIfAllFree_40 rfl (by decide) ?_
        refine g_isub (pc1 := 42) d_MenuSearch_mealsIfAllFree_41 rfl ?_
        refine Wp.lI h (fun x10 h => ?_)
        refine g_istore (pc1 := 44) (lv' := [(0, .ref 396), (1, .int v1), (2, .int x9), (3, .int v5), (4, .int x10), (5, .int v5), (6, .int r3)]) d_MenuSearch_mealsIfAllFree_42 rfl (by decide) [1, 2, 3, 4, 0, 5, 6] rfl ?_
        refine Wp.loc (lv' := [(0, .ref 396), (1, .int v1), (2, .int x9), (3, .int v5), (4, .int x10), (5, .int v5)]) [0, 1, 2, 3, 4, 5] rfl ?_
        exact j_MenuSearch_mealsIfAllFree_44 hld  hQ hK10 h
def F_MenuSearch_mealsIfAllFree (p1 : Int32) (M : gM) : Option (Int32) :=
  H_MenuSearch_mealsIfAllFree_10 p1 M FU 0 0 (-1) 0
set_option maxHeartbeats 4000000 in
set_option maxRecDepth 20000 in
theorem f_MenuSearch_mealsIfAllFree {l : Launch} {ld : Nat} {M : gM} {L : gL} {Q : Option Value → gM → gL → gR → Prop} (hld : isLa ld) {p1 : Int32}  {q : Int32} (h : F_MenuSearch_mealsIfAllFree p1 M = some q) (hQ : Q (some (.int q)) M L (rf ld)) : Tm l y_MenuSearch_mealsIfAllFree (0, 0, 447) 447 [.ref 396, .int p1] M L (rf ld) Q := by
  refine Tm.of (by decide) (Nat.le_of_ble_eq_true rfl) ?_
  show Wp l y_MenuSearch_mealsIfAllFree (0, 0, 447) 447 0 0 0 [(0, .ref 396), (1, .int p1)] [] M L (rf ld) Q
  unfold F_MenuSearch_mealsIfAllFree at h
  refine g_iconst (pc1 := 1) (v := 0) d_MenuSearch_mealsIfAllFree_0 rfl (by decide) ?_
  refine g_istore_n (pc1 := 2) (lv' := [(0, .ref 396), (1, .int p1), (2, .int 0)]) d_MenuSearch_mealsIfAllFree_1 rfl rfl (by decide) [1, 2, 0] rfl ?_
  refine g_iconst (pc1 := 3) (v := 0) d_MenuSearch_mealsIfAllFree_2 rfl (by decide) ?_
  refine g_istore_n (pc1 := 4) (lv' := [(0, .ref 396), (1, .int p1), (2, .int 0), (3, .int 0)]) d_MenuSearch_mealsIfAllFree_3 rfl rfl (by decide) [1, 2, 3, 0] rfl ?_
  refine g_iconst (pc1 := 5) (v := (-1)) d_MenuSearch_mealsIfAllFree_4 rfl (by decide) ?_
  refine g_istore (pc1 := 7) (lv' := [(0, .ref 396), (1, .int p1), (2, .int 0), (3, .int 0), (4, .int (-1))]) d_MenuSearch_mealsIfAllFree_5 rfl (by decide) [1, 2, 3, 4, 0] rfl ?_
  refine g_iconst (pc1 := 8) (v := 0) d_MenuSearch_mealsIfAllFree_7 rfl (by decide) ?_
  refine g_istore (pc1 := 10) (lv' := [(0, .ref 396), (1, .int p1), (2, .int 0), (3, .int 0), (4, .int (-1)), (5, .int 0)]) d_MenuSearch_mealsIfAllFree_8 rfl (by decide) [1, 2, 3, 4, 5, 0] rfl ?_
  exact h_MenuSearch_mealsIfAllFree_10 hld  hQ  _ 0 0 (-1) 0 h

def J_Past_keep_67 (X1 : Nat) (s1 : Int32) (M : gM) : Option (gM) :=
  nmM (uM M 78 1 s1) (fun M8 => nmM (uM M8 78 2 (if ((M8 78 2) + 1) < 40 then ((M8 78 2) + 1) else 40)) (fun M9 => some M9))
set_option maxHeartbeats 4000000 in
set_option maxRecDepth 20000 in
theorem j_Past_keep_67 {l : Launch} {ld : Nat} {Q : Option Value → gM → gL → gR → Prop} (hld : isLa ld) {X1 : Nat} (hX1 : isSt X1) {q : gM} {M : gM} {L : gL} (hQ : Q none q L (rf ld))  {s1 : Int32}  (h : J_Past_keep_67 X1 s1 M = some q) : Wp l y_Past_keep (0, 0, 447) 447 0 0 67 [(0, .ref 78)] [.int s1, .ref 78] M L (rf ld) Q := by
  unfold J_Past_keep_67 at h
  refine g_puti (pc1 := 70) d_Past_keep_67 rfl fo_Past_18 (po_7_1 _) sh_78 (by decide) ?_
  refine Wp.lM h (fun M8 h => ?_)
  refine g_aload_n (pc1 := 71) d_Past_keep_70 rfl 0 rfl ?_
  refine g_bipush (pc1 := 73) (v := 40) d_Past_keep_71 rfl (by decide) ?_
  refine g_aload_n (pc1 := 74) d_Past_keep_73 rfl 0 rfl ?_
  refine g_geti (pc1 := 77) d_Past_keep_74 rfl ⟨_, fo_Past_22⟩ sh_78 (by decide) ?_
  refine g_iconst (pc1 := 78) (v := 1) d_Past_keep_77 rfl (by decide) ?_
  refine g_iadd (pc1 := 79) d_Past_keep_78 rfl ?_
  refine g_mmin (pc1 := 82) d_Past_keep_79 rfl mm_Past_29 (by decide) ⟨Nat.le_refl 0, Nat.le_refl 0⟩ (Nat.le_of_ble_eq_true rfl) ?_
  refine g_puti (pc1 := 85) d_Past_keep_82 rfl fo_Past_22 (po_7_2 _) sh_78 (by decide) ?_
  refine Wp.lM h (fun M9 h => ?_)
  refine g_return rfl d_Past_keep_85 rfl ?_
  cases h; exact hQ
def F_Past_keep (X1 : Nat) (M : gM) : Option (gM) :=
  (if (M 78 1) < 0 then some M else (if 40 ≤ (M 78 1) then some M else (if ((M 78 1) : Int32) < 0 ∨ 40 ≤ ((M 78 1) : Int32).toNatClampNeg then none else (if ((M 78 1) : Int32) < 0 ∨ 40 ≤ ((M 78 1) : Int32).toNatClampNeg then none else bI (F_State_copyFrom (80 + 7 * ((M 78 1) : Int32).toNatClampNeg) X1 M) (fun M6 => (if 40 ≤ ((M6 78 1) + 1) then J_Past_keep_67 X1 0 M6 else J_Past_keep_67 X1 ((M6 78 1) + 1) M6))))))
set_option maxHeartbeats 4000000 in
set_option maxRecDepth 20000 in
theorem f_Past_keep {l : Launch} {ld : Nat} {M : gM} {L : gL} {Q : Option Value → gM → gL → gR → Prop} (hld : isLa ld) {X1 : Nat} (hX1 : isSt X1) {q : gM} (h : F_Past_keep X1 M = some q) (hQ : Q none q L (rf ld)) : Tm l y_Past_keep (0, 0, 447) 447 [.ref 78, .ref X1] M L (rf ld) Q := by
  refine Tm.of (by decide) (Nat.le_of_ble_eq_true rfl) ?_
  show Wp l y_Past_keep (0, 0, 447) 447 0 0 0 [(0, .ref 78), (1, .ref X1)] [] M L (rf ld) Q
  unfold F_Past_keep at h
  refine g_aload_n (pc1 := 1) d_Past_keep_0 rfl 0 rfl ?_
  refine g_geti (pc1 := 4) d_Past_keep_1 rfl ⟨_, fo_Past_18⟩ sh_78 (by decide) ?_
  refine g_if_lt (pc1 := 7) (tgt := 31) d_Past_keep_4 (by decide) rfl (fun c1 => ?_) (fun c1 => ?_)
  · replace h := itp h c1
    refine g_return rfl d_Past_keep_31 rfl ?_
    cases h; exact hQ
  · replace h := itn h c1
    refine g_aload_n (pc1 := 8) d_Past_keep_7 rfl 0 rfl ?_
    refine g_geti (pc1 := 11) d_Past_keep_8 rfl ⟨_, fo_Past_18⟩ sh_78 (by decide) ?_
    refine g_aload_n (pc1 := 12) d_Past_keep_11 rfl 0 rfl ?_
    refine g_getr (pc1 := 15) d_Past_keep_12 rfl ⟨_, fo_Past_11⟩ sh_78 (by decide) (rf_78_0 ld) ?_
    refine g_alen (pc1 := 16) (v := 40) d_Past_keep_15 rfl sh_79 (by decide) (by decide) (by decide) (by decide) ?_
    refine g_icmp_ge (pc1 := 19) (tgt := 31) d_Past_keep_16 (by decide) rfl (fun c2 => ?_) (fun c2 => ?_)
    · replace h := itp h c2
      refine g_return rfl d_Past_keep_31 rfl ?_
      cases h; exact hQ
    · replace h := itn h c2
      refine g_aload_n (pc1 := 20) d_Past_keep_19 rfl 0 rfl ?_
      refine g_getr (pc1 := 23) d_Past_keep_20 rfl ⟨_, fo_Past_11⟩ sh_78 (by decide) (rf_78_0 ld) ?_
      refine g_aload_n (pc1 := 24) d_Past_keep_23 rfl 0 rfl ?_
      refine g_geti (pc1 := 27) d_Past_keep_24 rfl ⟨_, fo_Past_18⟩ sh_78 (by decide) ?_
      obtain ⟨g3, h⟩ := gdn h
      refine g_aald (pc1 := 28) d_Past_keep_27 rfl sh_79 (by decide) g3 (rfA_79 ld g3).2 ?_
      refine g_nonnull (tgt := 32) d_Past_keep_28 (by decide) ?_
      refine g_aload_n (pc1 := 33) d_Past_keep_32 rfl 0 rfl ?_
      refine g_getr (pc1 := 36) d_Past_keep_33 rfl ⟨_, fo_Past_11⟩ sh_78 (by decide) (rf_78_0 ld) ?_
      refine g_aload_n (pc1 := 37) d_Past_keep_36 rfl 0 rfl ?_
      refine g_geti (pc1 := 40) d_Past_keep_37 rfl ⟨_, fo_Past_18⟩ sh_78 (by decide) ?_
      obtain ⟨g4, h⟩ := gdn h
      refine g_aald (pc1 := 41) d_Past_keep_40 rfl sh_79 (by decide) g4 (rfA_79 ld g4).2 ?_
      refine g_aload_n (pc1 := 42) d_Past_keep_41 rfl 1 rfl ?_
      refine g_callV0 (pc1 := 45) (As := [.ref X1]) (rest := []) d_Past_keep_42 rfl mo_Past_25 mi_State_copyFrom mv_State_copyFrom rfl (shSt_0 (rfA_79 ld g4).1) (ltSt_0 (rfA_79 ld g4).1) (by decide) rfl rfl (Nat.le_of_ble_eq_true rfl) ?_
      obtain ⟨M6, hq5, h⟩ := bnd h
      refine f_State_copyFrom hld (rfA_79 ld g4).1 hX1 hq5 ?_
      dsimp only [psh]
      refine g_aload_n (pc1 := 46) d_Past_keep_45 rfl 0 rfl ?_
      refine g_aload_n (pc1 := 47) d_Past_keep_46 rfl 0 rfl ?_
      refine g_geti (pc1 := 50) d_Past_keep_47 rfl ⟨_, fo_Past_18⟩ sh_78 (by decide) ?_
      refine g_iconst (pc1 := 51) (v := 1) d_Past_keep_50 rfl (by decide) ?_
      refine g_iadd (pc1 := 52) d_Past_keep_51 rfl ?_
      refine g_bipush (pc1 := 54) (v := 40) d_Past_keep_52 rfl (by decide) ?_
      refine g_icmp_ge (pc1 := 57) (tgt := 66) d_Past_keep_54 (by decide) rfl (fun c7 => ?_) (fun c7 => ?_)
      · replace h := itp h c7
        refine g_iconst (pc1 := 67) (v := 0) d_Past_keep_66 rfl (by decide) ?_
        refine Wp.loc (lv' := [(0, .ref 78)]) [0] rfl ?_
        exact j_Past_keep_67 hld hX1 hQ  h
      · replace h := itn h c7
        refine g_aload_n (pc1 := 58) d_Past_keep_57 rfl 0 rfl ?_
        refine g_geti (pc1 := 61) d_Past_keep_58 rfl ⟨_, fo_Past_18⟩ sh_78 (by decide) ?_
        refine g_iconst (pc1 := 62) (v := 1) d_Past_keep_61 rfl (by decide) ?_
        refine g_iadd (pc1 := 63) d_Past_keep_62 rfl ?_
        refine g_goto (tgt := 67) d_Past_keep_63 (by decide) ?_
        refine Wp.loc (lv' := [(0, .ref 78)]) [0] rfl ?_
        exact j_Past_keep_67 hld hX1 hQ  h

def J_Past_takeBack_18 (X1 : Nat) (s0 : Int32) (M : gM) : Option (Int32 × gM) :=
  (if (M 78 2) = 0 then some (0, M) else (if 40 ≤ s0 then some (0, M) else (if (s0 : Int32) < 0 ∨ 40 ≤ (s0 : Int32).toNatClampNeg then none else (if (s0 : Int32) < 0 ∨ 40 ≤ (s0 : Int32).toNatClampNeg then none else bI (F_State_copyFrom X1 (80 + 7 * (s0 : Int32).toNatClampNeg) M) (fun M7 => nmM (uM M7 78 1 s0) (fun M8 => nmM (uM M8 78 2 ((M8 78 2) - 1)) (fun M9 => some (1, M9))))))))
set_option maxHeartbeats 4000000 in
set_option maxRecDepth 20000 in
theorem j_Past_takeBack_18 {l : Launch} {ld : Nat} {Q : Option Value → gM → gL → gR → Prop} (hld : isLa ld) {X1 : Nat} (hX1 : isSt X1) {q : Int32 × gM} {M : gM} {L : gL} (hQ : Q (some (.int q.1)) q.2 L (rf ld))  {s0 : Int32}  (h : J_Past_takeBack_18 X1 s0 M = some q) : Wp l y_Past_takeBack (0, 0, 447) 447 0 0 18 [(0, .ref 78), (1, .ref X1)] [.int s0] M L (rf ld) Q := by
  unfold J_Past_takeBack_18 at h
  refine g_istore_n (pc1 := 19) (lv' := [(0, .ref 78), (1, .ref X1), (2, .int s0)]) d_Past_takeBack_18 rfl rfl (by decide) [1, 2, 0] rfl ?_
  refine g_aload_n (pc1 := 20) d_Past_takeBack_19 rfl 0 rfl ?_
  refine g_geti (pc1 := 23) d_Past_takeBack_20 rfl ⟨_, fo_Past_22⟩ sh_78 (by decide) ?_
  refine g_if_eq (pc1 := 26) (tgt := 44) d_Past_takeBack_23 (by decide) rfl (fun c2 => ?_) (fun c2 => ?_)
  · replace h := itp h c2
    refine g_iconst (pc1 := 45) (v := 0) d_Past_takeBack_44 rfl (by decide) ?_
    refine g_ireturn (Or.inr ⟨rfl, rfl⟩) d_Past_takeBack_45 rfl ?_
    cases h; exact hQ
  · replace h := itn h c2
    refine g_iload_n (pc1 := 27) d_Past_takeBack_26 rfl 2 rfl ?_
    refine g_aload_n (pc1 := 28) d_Past_takeBack_27 rfl 0 rfl ?_
    refine g_getr (pc1 := 31) d_Past_takeBack_28 rfl ⟨_, fo_Past_11⟩ sh_78 (by decide) (rf_78_0 ld) ?_
    refine g_alen (pc1 := 32) (v := 40) d_Past_takeBack_31 rfl sh_79 (by decide) (by decide) (by decide) (by decide) ?_
    refine g_icmp_ge (pc1 := 35) (tgt := 44) d_Past_takeBack_32 (by decide) rfl (fun c3 => ?_) (fun c3 => ?_)
    · replace h := itp h c3
      refine g_iconst (pc1 := 45) (v := 0) d_Past_takeBack_44 rfl (by decide) ?_
      refine g_ireturn (Or.inr ⟨rfl, rfl⟩) d_Past_takeBack_45 rfl ?_
      cases h; exact hQ
    · replace h := itn h c3
      refine g_aload_n (pc1 := 36) d_Past_takeBack_35 rfl 0 rfl ?_
      refine g_getr (pc1 := 39) d_Past_takeBack_36 rfl ⟨_, fo_Past_11⟩ sh_78 (by decide) (rf_78_0 ld) ?_
      refine g_iload_n (pc1 := 40) d_Past_takeBack_39 rfl 2 rfl ?_
      obtain ⟨g4, h⟩ := gdn h
      refine g_aald (pc1 := 41) d_Past_takeBack_40 rfl sh_79 (by decide) g4 (rfA_79 ld g4).2 ?_
      refine g_nonnull (tgt := 46) d_Past_takeBack_41 (by decide) ?_
      refine g_aload_n (pc1 := 47) d_Past_takeBack_46 rfl 1 rfl ?_
      refine g_aload_n (pc1 := 48) d_Past_takeBack_47 rfl 0 rfl ?_
      refine g_getr (pc1 := 51) d_Past_takeBack_48 rfl ⟨_, fo_Past_11⟩ sh_78 (by decide) (rf_78_0 ld) ?_
      refine g_iload_n (pc1 := 52) d_Past_takeBack_51 rfl 2 rfl ?_
      obtain ⟨g5, h⟩ := gdn h
      refine g_aald (pc1 := 53) d_Past_takeBack_52 rfl sh_79 (by decide) g5 (rfA_79 ld g5).2 ?_
      refine g_callV0 (pc1 := 56) (As := [.ref (80 + 7 * (s0 : Int32).toNatClampNeg)]) (rest := []) d_Past_takeBack_53 rfl mo_Past_25 mi_State_copyFrom mv_State_copyFrom rfl (shSt_0 hX1) (ltSt_0 hX1) (by decide) rfl rfl (Nat.le_of_ble_eq_true rfl) ?_
      obtain ⟨M7, hq6, h⟩ := bnd h
      refine f_State_copyFrom hld hX1 (rfA_79 ld g5).1 hq6 ?_
      dsimp only [psh]
      refine g_aload_n (pc1 := 57) d_Past_takeBack_56 rfl 0 rfl ?_
      refine g_iload_n (pc1 := 58) d_Past_takeBack_57 rfl 2 rfl ?_
      refine g_puti (pc1 := 61) d_Past_takeBack_58 rfl fo_Past_18 (po_7_1 _) sh_78 (by decide) ?_
      refine Wp.lM h (fun M8 h => ?_)
      refine g_aload_n (pc1 := 62) d_Past_takeBack_61 rfl 0 rfl ?_
      refine g_dup (pc1 := 63) d_Past_takeBack_62 rfl rfl ?_
      refine g_geti (pc1 := 66) d_Past_takeBack_63 rfl ⟨_, fo_Past_22⟩ sh_78 (by decide) ?_
      refine g_iconst (pc1 := 67) (v := 1) d_Past_takeBack_66 rfl (by decide) ?_
      refine g_isub (pc1 := 68) d_Past_takeBack_67 rfl ?_
      refine g_puti (pc1 := 71) d_Past_takeBack_68 rfl fo_Past_22 (po_7_2 _) sh_78 (by decide) ?_
      refine Wp.lM h (fun M9 h => ?_)
      refine g_iconst (pc1 := 72) (v := 1) d_Past_takeBack_71 rfl (by decide) ?_
      refine g_ireturn (Or.inr ⟨rfl, rfl⟩) d_Past_takeBack_72 rfl ?_
      cases h; exact hQ
def F_Past_takeBack (X1 : Nat) (M : gM) : Option (Int32 × gM) :=
  (if (M 78 1) ≤ 0 then J_Past_takeBack_18 X1 39 M else J_Past_takeBack_18 X1 ((M 78 1) - 1) M)
set_option maxHeartbeats 4000000 in
set_option maxRecDepth 20000 in
theorem f_Past_takeBack {l : Launch} {ld : Nat} {M : gM} {L : gL} {Q : Option Value → gM → gL → gR → Prop} (hld : isLa ld) {X1 : Nat} (hX1 : isSt X1) {q : Int32 × gM} (h : F_Past_takeBack X1 M = some q) (hQ : Q (some (.int q.1)) q.2 L (rf ld)) : Tm l y_Past_takeBack (0, 0, 447) 447 [.ref 78, .ref X1] M L (rf ld) Q := by
  refine Tm.of (by decide) (Nat.le_of_ble_eq_true rfl) ?_
  show Wp l y_Past_takeBack (0, 0, 447) 447 0 0 0 [(0, .ref 78), (1, .ref X1)] [] M L (rf ld) Q
  unfold F_Past_takeBack at h
  refine g_aload_n (pc1 := 1) d_Past_takeBack_0 rfl 0 rfl ?_
  refine g_geti (pc1 := 4) d_Past_takeBack_1 rfl ⟨_, fo_Past_18⟩ sh_78 (by decide) ?_
  refine g_if_le (pc1 := 7) (tgt := 16) d_Past_takeBack_4 (by decide) rfl (fun c1 => ?_) (fun c1 => ?_)
  · replace h := itp h c1
    refine g_bipush (pc1 := 18) (v := 39) d_Past_takeBack_16 rfl (by decide) ?_
    exact j_Past_takeBack_18 hld hX1 hQ  h
  · replace h := itn h c1
    refine g_aload_n (pc1 := 8) d_Past_takeBack_7 rfl 0 rfl ?_
    refine g_geti (pc1 := 11) d_Past_takeBack_8 rfl ⟨_, fo_Past_18⟩ sh_78 (by decide) ?_
    refine g_iconst (pc1 := 12) (v := 1) d_Past_takeBack_11 rfl (by decide) ?_
    refine g_isub (pc1 := 13) d_Past_takeBack_12 rfl ?_
    refine g_goto (tgt := 18) d_Past_takeBack_13 (by decide) ?_
    exact j_Past_takeBack_18 hld hX1 hQ  h

def J_PotSearch_stepDown_19 (X1 : Nat) (v2 : Int32) (v3 : Int32) (M : gM) : Option (gM) :=
  bI (F_Main_put 393 6 v2 (v3 - 1) M) (fun M7 => bI (F_PotSearch_fillFrom X1 (v2 + 1) ((6 - (M7 391 3)) + 1) M7) (fun M9 => some M9))
set_option maxHeartbeats 4000000 in
set_option maxRecDepth 20000 in
theorem j_PotSearch_stepDown_19 {l : Launch} {ld : Nat} {Q : Option Value → gM → gL → gR → Prop} (hld : isLa ld) {X1 : Nat} (hX1 : isSt X1) {q : gM} {M : gM} {L : gL} (hQ : Q none q L (rf ld))  {v2 : Int32} {v3 : Int32}  (h : J_PotSearch_stepDown_19 X1 v2 v3 M = some q) : Wp l y_PotSearch_stepDown (0, 0, 447) 447 0 0 19 [(0, .ref 391), (1, .ref X1), (2, .int v2), (3, .int v3)] [] M L (rf ld) Q := by
  unfold J_PotSearch_stepDown_19 at h
  refine g_aload_n (pc1 := 20) d_PotSearch_stepDown_19 rfl 0 rfl ?_
  refine g_getr (pc1 := 23) d_PotSearch_stepDown_20 rfl ⟨_, fo_PotSearch_15⟩ sh_391 (by decide) (rf_391_1 ld) ?_
  refine g_iload_n (pc1 := 24) d_PotSearch_stepDown_23 rfl 2 rfl ?_
  refine g_iload_n (pc1 := 25) d_PotSearch_stepDown_24 rfl 3 rfl ?_
  refine g_iconst (pc1 := 26) (v := 1) d_PotSearch_stepDown_25 rfl (by decide) ?_
  refine g_isub (pc1 := 27) d_PotSearch_stepDown_26 rfl ?_
  refine g_callS0 (pc1 := 30) (As := [.ref 393, .int v2, .int (v3 - 1)]) (rest := []) d_PotSearch_stepDown_27 rfl mo_PotSearch_24 ms_Main_put (by decide) rfl rfl (Nat.le_of_ble_eq_true rfl) ?_
  obtain ⟨M7, hq6, h⟩ := bnd h
  refine f_Main_put hld sh_393 (by decide) (by decide) hq6 ?_
  dsimp only [psh]
  refine g_aload_n (pc1 := 31) d_PotSearch_stepDown_30 rfl 0 rfl ?_
  refine g_aload_n (pc1 := 32) d_PotSearch_stepDown_31 rfl 1 rfl ?_
  refine g_iload_n (pc1 := 33) d_PotSearch_stepDown_32 rfl 2 rfl ?_
  refine g_iconst (pc1 := 34) (v := 1) d_PotSearch_stepDown_33 rfl (by decide) ?_
  refine g_iadd (pc1 := 35) d_PotSearch_stepDown_34 rfl ?_
  refine g_bipush (pc1 := 37) (v := 6) d_PotSearch_stepDown_35 rfl (by decide) ?_
  refine g_aload_n (pc1 := 38) d_PotSearch_stepDown_37 rfl 0 rfl ?_
  refine g_geti (pc1 := 41) d_PotSearch_stepDown_38 rfl ⟨_, fo_PotSearch_56⟩ sh_391 (by decide) ?_
  refine g_isub (pc1 := 42) d_PotSearch_stepDown_41 rfl ?_
  refine g_iconst (pc1 := 43) (v := 1) d_PotSearch_stepDown_42 rfl (by decide) ?_
  refine g_iadd (pc1 := 44) d_PotSearch_stepDown_43 rfl ?_
  refine g_callV0 (pc1 := 47) (As := [.ref X1, .int (v2 + 1), .int ((6 - (M7 391 3)) + 1)]) (rest := []) d_PotSearch_stepDown_44 rfl mo_PotSearch_48 mi_PotSearch_fillFrom mv_PotSearch_fillFrom rfl sh_391 (by decide) (by decide) rfl rfl (Nat.le_of_ble_eq_true rfl) ?_
  obtain ⟨M9, hq8, h⟩ := bnd h
  refine f_PotSearch_fillFrom hld hX1 hq8 ?_
  dsimp only [psh]
  refine g_return rfl d_PotSearch_stepDown_47 rfl ?_
  cases h; exact hQ
def B_PotSearch_stepDown_2 (X1 : Nat) (M : gM) (K2 : Int32 → Option (gM)) : Int32 → Option (gM) := fun v2 =>
  (if v2 < 0 then some M else bI (F_Main_at 393 6 v2 M) (fun r3 => (if r3 ≤ 0 then nmI (v2 + (-1)) (fun x5 => K2 x5) else J_PotSearch_stepDown_19 X1 v2 r3 M)))
def H_PotSearch_stepDown_2 (X1 : Nat) (M : gM) : Nat → Int32 → Option (gM) := lpK (B_PotSearch_stepDown_2 X1 M) (fun _ => none)
set_option maxHeartbeats 4000000 in
set_option maxRecDepth 20000 in
theorem h_PotSearch_stepDown_2 {l : Launch} {ld : Nat} {Q : Option Value → gM → gL → gR → Prop} (hld : isLa ld) {X1 : Nat} (hX1 : isSt X1) {q : gM} {M : gM} {L : gL} (hQ : Q none q L (rf ld))    : ∀ (f : Nat) (v2 : Int32), H_PotSearch_stepDown_2 X1 M f v2 = some q → Wp l y_PotSearch_stepDown (0, 0, 447) 447 0 0 2 [(0, .ref 391), (1, .ref X1), (2, .int v2)] [] M L (rf ld) Q := by
  intro f
  induction f with
  | zero => intro v2 h; cases h
  | succ f hK2 =>
    intro v2 h
    replace h : B_PotSearch_stepDown_2 X1 M (H_PotSearch_stepDown_2 X1 M f) v2 = some q := h
    unfold B_PotSearch_stepDown_2 at h
    refine g_iload_n (pc1 := 3) d_PotSearch_stepDown_2 rfl 2 rfl ?_
    refine g_if_lt (pc1 := 6) (tgt := 54) d_PotSearch_stepDown_3 (by decide) rfl (fun c1 => ?_) (fun c1 => ?_)
    · replace h := itp h c1
      refine g_return rfl d_PotSearch_stepDown_54 rfl ?_
      cases h; exact hQ
    · replace h := itn h c1
      refine g_aload_n (pc1 := 7) d_PotSearch_stepDown_6 rfl 0 rfl ?_
      refine g_getr (pc1 := 10) d_PotSearch_stepDown_7 rfl ⟨_, fo_PotSearch_15⟩ sh_391 (by decide) (rf_391_1 ld) ?_
      refine g_iload_n (pc1 := 11) d_PotSearch_stepDown_10 rfl 2 rfl ?_
      refine g_callS0 (pc1 := 14) (As := [.ref 393, .int v2]) (rest := []) d_PotSearch_stepDown_11 rfl mo_PotSearch_75 ms_Main_at (by decide) rfl rfl (Nat.le_of_ble_eq_true rfl) ?_
      obtain ⟨r3, hq2, h⟩ := bnd h
      refine f_Main_at hld sh_393 (by decide) (by decide) hq2 ?_
      dsimp only [psh]
      refine g_istore_n (pc1 := 15) (lv' := [(0, .ref 391), (1, .ref X1), (2, .int v2), (3, .int r3)]) d_PotSearch_stepDown_14 rfl rfl (by decide) [1, 2, 3, 0] rfl ?_
      refine g_iload_n (pc1 := 16) d_PotSearch_stepDown_15 rfl 3 rfl ?_
      refine g_if_le (pc1 := 19) (tgt := 48) d_PotSearch_stepDown_16 (by decide) rfl (fun c4 => ?_) (fun c4 => ?_)
      · replace h := itp h c4
        obtain ⟨x5, ex5, h⟩ := ltI h
        refine g_iinc (pc1 := 51) (v := x5) (lv' := [(0, .ref 391), (1, .ref X1), (2, .int x5), (3, .int r3)]) d_PotSearch_stepDown_48 rfl 2 rfl (by rw [ex5]; rfl) (by decide) [1, 2, 0, 3] rfl ?_
        refine g_goto (tgt := 2) d_PotSearch_stepDown_51 (by decide) ?_
        refine Wp.loc (lv' := [(0, .ref 391), (1, .ref X1), (2, .int x5)]) [0, 1, 2] rfl ?_
        exact hK2 x5 h
      · replace h := itn h c4
        exact j_PotSearch_stepDown_19 hld hX1 hQ  h
def F_PotSearch_stepDown (X1 : Nat) (M : gM) : Option (gM) :=
  H_PotSearch_stepDown_2 X1 M FU 5
set_option maxHeartbeats 4000000 in
set_option maxRecDepth 20000 in
theorem f_PotSearch_stepDown {l : Launch} {ld : Nat} {M : gM} {L : gL} {Q : Option Value → gM → gL → gR → Prop} (hld : isLa ld) {X1 : Nat} (hX1 : isSt X1) {q : gM} (h : F_PotSearch_stepDown X1 M = some q) (hQ : Q none q L (rf ld)) : Tm l y_PotSearch_stepDown (0, 0, 447) 447 [.ref 391, .ref X1] M L (rf ld) Q := by
  refine Tm.of (by decide) (Nat.le_of_ble_eq_true rfl) ?_
  show Wp l y_PotSearch_stepDown (0, 0, 447) 447 0 0 0 [(0, .ref 391), (1, .ref X1)] [] M L (rf ld) Q
  unfold F_PotSearch_stepDown at h
  refine g_iconst (pc1 := 1) (v := 5) d_PotSearch_stepDown_0 rfl (by decide) ?_
  refine g_istore_n (pc1 := 2) (lv' := [(0, .ref 391), (1, .ref X1), (2, .int 5)]) d_PotSearch_stepDown_1 rfl rfl (by decide) [1, 2, 0] rfl ?_
  exact h_PotSearch_stepDown_2 hld hX1 hQ  _ 5 h

def J_PotSearch_weigh_110 (Ld1 : Nat) (K19 : Int32 → gM → Option (gM)) (v2 : Int32) (M : gM) : Option (gM) :=
  nmI (v2 + 1) (fun x9 => K19 x9 M)
set_option maxHeartbeats 4000000 in
set_option maxRecDepth 20000 in
theorem j_PotSearch_weigh_110 {l : Launch} {ld : Nat} {Q : Option Value → gM → gL → gR → Prop} (hld : isLa ld) {Ld1 : Nat} (hLd1 : isLa Ld1) {q : gM} {M : gM} {L : gL} (hQ : Q none q L (rf ld)) {K19 : Int32 → gM → Option (gM)} {v2 : Int32} (hK19 : ∀ (w2 : Int32) (M : gM), K19 w2 M = some q → Wp l y_PotSearch_weigh (0, 0, 447) 447 0 0 19 [(0, .ref 391), (1, .ref Ld1), (2, .int w2)] [] M L (rf ld) Q) (h : J_PotSearch_weigh_110 Ld1 K19 v2 M = some q) : Wp l y_PotSearch_weigh (0, 0, 447) 447 0 0 110 [(0, .ref 391), (1, .ref Ld1), (2, .int v2)] [] M L (rf ld) Q := by
  unfold J_PotSearch_weigh_110 at h
  obtain ⟨x9, ex9, h⟩ := ltI h
  refine g_iinc (pc1 := 113) (v := x9) (lv' := [(0, .ref 391), (1, .ref Ld1), (2, .int x9)]) d_PotSearch_weigh_110 rfl 2 rfl (by rw [ex9]; rfl) (by decide) [1, 2, 0] rfl ?_
  refine g_goto (tgt := 19) d_PotSearch_weigh_113 (by decide) ?_
  exact hK19 x9 M h
def B_PotSearch_weigh_70 (Ld1 : Nat) (K19 : Int32 → gM → Option (gM)) (v2 : Int32) (v3 : Int32) (K70 : Int32 → gM → Option (gM)) : Int32 → gM → Option (gM) := fun v4 M =>
  (if 3 ≤ v4 then J_PotSearch_weigh_110 Ld1 K19 v2 M else bI (F_Main_at 394 3 v4 M) (fun r16 => bI (F_Land_broughtBy Ld1 v2 v4 M) (fun r18 => bI (F_Main_put 394 3 v4 (r16 + (v3 * r18)) M) (fun M20 => nmI (v4 + 1) (fun x21 => K70 x21 M20)))))
def H_PotSearch_weigh_70 (Ld1 : Nat) (K19 : Int32 → gM → Option (gM)) (v2 : Int32) (v3 : Int32) : Nat → Int32 → gM → Option (gM) := lpK (B_PotSearch_weigh_70 Ld1 K19 v2 v3) (fun _ _ => none)
set_option maxHeartbeats 4000000 in
set_option maxRecDepth 20000 in
theorem h_PotSearch_weigh_70 {l : Launch} {ld : Nat} {Q : Option Value → gM → gL → gR → Prop} (hld : isLa ld) {Ld1 : Nat} (hLd1 : isLa Ld1) {q : gM} {L : gL} (hQ : Q none q L (rf ld)) {K19 : Int32 → gM → Option (gM)} {v2 : Int32} {v3 : Int32} (hK19 : ∀ (w2 : Int32) (M : gM), K19 w2 M = some q → Wp l y_PotSearch_weigh (0, 0, 447) 447 0 0 19 [(0, .ref 391), (1, .ref Ld1), (2, .int w2)] [] M L (rf ld) Q) : ∀ (f : Nat) (v4 : Int32) (M : gM), H_PotSearch_weigh_70 Ld1 K19 v2 v3 f v4 M = some q → Wp l y_PotSearch_weigh (0, 0, 447) 447 0 0 70 [(0, .ref 391), (1, .ref Ld1), (2, .int v2), (3, .int v3), (4, .int v4)] [] M L (rf ld) Q := by
  intro f
  induction f with
  | zero => intro v4 M h; cases h
  | succ f hK70 =>
    intro v4 M h
    replace h : B_PotSearch_weigh_70 Ld1 K19 v2 v3 (H_PotSearch_weigh_70 Ld1 K19 v2 v3 f) v4 M = some q := h
    unfold B_PotSearch_weigh_70 at h
    refine g_iload (pc1 := 72) d_PotSearch_weigh_70 rfl 4 rfl ?_
    refine g_iconst (pc1 := 73) (v := 3) d_PotSearch_weigh_72 rfl (by decide) ?_
    refine g_icmp_ge (pc1 := 76) (tgt := 110) d_PotSearch_weigh_73 (by decide) rfl (fun c14 => ?_) (fun c14 => ?_)
    · replace h := itp h c14
      refine Wp.loc (lv' := [(0, .ref 391), (1, .ref Ld1), (2, .int v2)]) [0, 1, 2] rfl ?_
      exact j_PotSearch_weigh_110 hld hLd1 hQ hK19 h
    · replace h := itn h c14
      refine g_aload_n (pc1 := 77) d_PotSearch_weigh_76 rfl 0 rfl ?_
      refine g_getr (pc1 := 80) d_PotSearch_weigh_77 rfl ⟨_, fo_PotSearch_18⟩ sh_391 (by decide) (rf_391_2 ld) ?_
      refine g_iload (pc1 := 82) d_PotSearch_weigh_80 rfl 4 rfl ?_
      refine g_aload_n (pc1 := 83) d_PotSearch_weigh_82 rfl 0 rfl ?_
      refine g_getr (pc1 := 86) d_PotSearch_weigh_83 rfl ⟨_, fo_PotSearch_18⟩ sh_391 (by decide) (rf_391_2 ld) ?_
      refine g_iload (pc1 := 88) d_PotSearch_weigh_86 rfl 4 rfl ?_
      refine g_callS0 (pc1 := 91) (As := [.ref 394, .int v4]) (rest := [.int v4, .ref 394]) d_PotSearch_weigh_88 rfl mo_PotSearch_75 ms_Main_at (by decide) rfl rfl (Nat.le_of_ble_eq_true rfl) ?_
      obtain ⟨r16, hq15, h⟩ := bnd h
      refine f_Main_at hld sh_394 (by decide) (by decide) hq15 ?_
      dsimp only [psh]
      refine g_iload_n (pc1 := 92) d_PotSearch_weigh_91 rfl 3 rfl ?_
      refine g_aload_n (pc1 := 93) d_PotSearch_weigh_92 rfl 1 rfl ?_
      refine g_iload_n (pc1 := 94) d_PotSearch_weigh_93 rfl 2 rfl ?_
      refine g_iload (pc1 := 96) d_PotSearch_weigh_94 rfl 4 rfl ?_
      refine g_callV0 (pc1 := 99) (As := [.int v2, .int v4]) (rest := [.int v3, .int r16, .int v4, .ref 394]) d_PotSearch_weigh_96 rfl mo_PotSearch_94 mi_Land_broughtBy mv_Land_broughtBy rfl (shLa_0 hLd1) (ltLa_0 hLd1) (by decide) rfl rfl (Nat.le_of_ble_eq_true rfl) ?_
      obtain ⟨r18, hq17, h⟩ := bnd h
      refine f_Land_broughtBy hld hLd1 hq17 ?_
      dsimp only [psh]
      refine g_imul (pc1 := 100) d_PotSearch_weigh_99 rfl ?_
      refine g_iadd (pc1 := 101) d_PotSearch_weigh_100 rfl ?_
      refine g_callS0 (pc1 := 104) (As := [.ref 394, .int v4, .int (r16 + (v3 * r18))]) (rest := []) d_PotSearch_weigh_101 rfl mo_PotSearch_24 ms_Main_put (by decide) rfl rfl (Nat.le_of_ble_eq_true rfl) ?_
      obtain ⟨M20, hq19, h⟩ := bnd h
      refine f_Main_put hld sh_394 (by decide) (by decide) hq19 ?_
      dsimp only [psh]
      obtain ⟨x21, ex21, h⟩ := ltI h
      refine g_iinc (pc1 := 107) (v := x21) (lv' := [(0, .ref 391), (1, .ref Ld1), (2, .int v2), (3, .int v3), (4, .int x21)]) d_PotSearch_weigh_104 rfl 4 rfl (by rw [ex21]; rfl) (by decide) [1, 2, 3, 4, 0] rfl ?_
      refine g_goto (tgt := 70) d_PotSearch_weigh_107 (by decide) ?_
      exact hK70 x21 M20 h
def B_PotSearch_weigh_19 (Ld1 : Nat) (K19 : Int32 → gM → Option (gM)) : Int32 → gM → Option (gM) := fun v2 M =>
  (if 6 ≤ v2 then some M else bI (F_Main_at 393 6 v2 M) (fun r7 => (if r7 ≤ 0 then J_PotSearch_weigh_110 Ld1 K19 v2 M else nmM (uM M 391 3 ((M 391 3) + r7)) (fun M10 => bI (F_Main_at (Ld1 + 2) 6 v2 M10) (fun r12 => nmM (uM M10 391 4 ((M10 391 4) + (r7 * r12))) (fun M13 => H_PotSearch_weigh_70 Ld1 K19 v2 r7 FU 0 M13))))))
def H_PotSearch_weigh_19 (Ld1 : Nat) : Nat → Int32 → gM → Option (gM) := lpK (B_PotSearch_weigh_19 Ld1) (fun _ _ => none)
set_option maxHeartbeats 4000000 in
set_option maxRecDepth 20000 in
theorem h_PotSearch_weigh_19 {l : Launch} {ld : Nat} {Q : Option Value → gM → gL → gR → Prop} (hld : isLa ld) {Ld1 : Nat} (hLd1 : isLa Ld1) {q : gM} {L : gL} (hQ : Q none q L (rf ld))    : ∀ (f : Nat) (v2 : Int32) (M : gM), H_PotSearch_weigh_19 Ld1 f v2 M = some q → Wp l y_PotSearch_weigh (0, 0, 447) 447 0 0 19 [(0, .ref 391), (1, .ref Ld1), (2, .int v2)] [] M L (rf ld) Q := by
  intro f
  induction f with
  | zero => intro v2 M h; cases h
  | succ f hK19 =>
    intro v2 M h
    replace h : B_PotSearch_weigh_19 Ld1 (H_PotSearch_weigh_19 Ld1 f) v2 M = some q := h
    unfold B_PotSearch_weigh_19 at h
    refine g_iload_n (pc1 := 20) d_PotSearch_weigh_19 rfl 2 rfl ?_
    refine g_bipush (pc1 := 22) (v := 6) d_PotSearch_weigh_20 rfl (by decide) ?_
    refine g_icmp_ge (pc1 := 25) (tgt := 116) d_PotSearch_weigh_22 (by decide) rfl (fun c5 => ?_) (fun c5 => ?_)
    · replace h := itp h c5
      refine g_return rfl d_PotSearch_weigh_116 rfl ?_
      cases h; exact hQ
    · replace h := itn h c5
      refine g_aload_n (pc1 := 26) d_PotSearch_weigh_25 rfl 0 rfl ?_
      refine g_getr (pc1 := 29) d_PotSearch_weigh_26 rfl ⟨_, fo_PotSearch_15⟩ sh_391 (by decide) (rf_391_1 ld) ?_
      refine g_iload_n (pc1 := 30) d_PotSearch_weigh_29 rfl 2 rfl ?_
      refine g_callS0 (pc1 := 33) (As := [.ref 393, .int v2]) (rest := []) d_PotSearch_weigh_30 rfl mo_PotSearch_75 ms_Main_at (by decide) rfl rfl (Nat.le_of_ble_eq_true rfl) ?_
      obtain ⟨r7, hq6, h⟩ := bnd h
      refine f_Main_at hld sh_393 (by decide) (by decide) hq6 ?_
      dsimp only [psh]
      refine g_istore_n (pc1 := 34) (lv' := [(0, .ref 391), (1, .ref Ld1), (2, .int v2), (3, .int r7)]) d_PotSearch_weigh_33 rfl rfl (by decide) [1, 2, 3, 0] rfl ?_
      refine g_iload_n (pc1 := 35) d_PotSearch_weigh_34 rfl 3 rfl ?_
      refine g_if_le (pc1 := 38) (tgt := 110) d_PotSearch_weigh_35 (by decide) rfl (fun c8 => ?_) (fun c8 => ?_)
      · replace h := itp h c8
        refine Wp.loc (lv' := [(0, .ref 391), (1, .ref Ld1), (2, .int v2)]) [0, 1, 2] rfl ?_
        exact j_PotSearch_weigh_110 hld hLd1 hQ hK19 h
      · replace h := itn h c8
        refine g_aload_n (pc1 := 39) d_PotSearch_weigh_38 rfl 0 rfl ?_
        refine g_dup (pc1 := 40) d_PotSearch_weigh_39 rfl rfl ?_
        refine g_geti (pc1 := 43) d_PotSearch_weigh_40 rfl ⟨_, fo_PotSearch_56⟩ sh_391 (by decide) ?_
        refine g_iload_n (pc1 := 44) d_PotSearch_weigh_43 rfl 3 rfl ?_
        refine g_iadd (pc1 := 45) d_PotSearch_weigh_44 rfl ?_
        refine g_puti (pc1 := 48) d_PotSearch_weigh_45 rfl fo_PotSearch_56 (po_10_3 _) sh_391 (by decide) ?_
        refine Wp.lM h (fun M10 h => ?_)
        refine g_aload_n (pc1 := 49) d_PotSearch_weigh_48 rfl 0 rfl ?_
        refine g_dup (pc1 := 50) d_PotSearch_weigh_49 rfl rfl ?_
        refine g_geti (pc1 := 53) d_PotSearch_weigh_50 rfl ⟨_, fo_PotSearch_89⟩ sh_391 (by decide) ?_
        refine g_iload_n (pc1 := 54) d_PotSearch_weigh_53 rfl 3 rfl ?_
        refine g_aload_n (pc1 := 55) d_PotSearch_weigh_54 rfl 1 rfl ?_
        refine g_getr (pc1 := 58) d_PotSearch_weigh_55 rfl ⟨_, fo_PotSearch_92⟩ (shLa_0 hLd1) (ltLa_0 hLd1) (rfLa_6 ld hLd1) ?_
        refine g_iload_n (pc1 := 59) d_PotSearch_weigh_58 rfl 2 rfl ?_
        refine g_callS0 (pc1 := 62) (As := [.ref (Ld1 + 2), .int v2]) (rest := [.int r7, .int (M10 391 4), .ref 391]) d_PotSearch_weigh_59 rfl mo_PotSearch_75 ms_Main_at (by decide) rfl rfl (Nat.le_of_ble_eq_true rfl) ?_
        obtain ⟨r12, hq11, h⟩ := bnd h
        refine f_Main_at hld (shLa_2 hLd1) (ltLa_2 hLd1) (by decide) hq11 ?_
        dsimp only [psh]
        refine g_imul (pc1 := 63) d_PotSearch_weigh_62 rfl ?_
        refine g_iadd (pc1 := 64) d_PotSearch_weigh_63 rfl ?_
        refine g_puti (pc1 := 67) d_PotSearch_weigh_64 rfl fo_PotSearch_89 (po_10_4 _) sh_391 (by decide) ?_
        refine Wp.lM h (fun M13 h => ?_)
        refine g_iconst (pc1 := 68) (v := 0) d_PotSearch_weigh_67 rfl (by decide) ?_
        refine g_istore (pc1 := 70) (lv' := [(0, .ref 391), (1, .ref Ld1), (2, .int v2), (3, .int r7), (4, .int 0)]) d_PotSearch_weigh_68 rfl (by decide) [1, 2, 3, 4, 0] rfl ?_
        exact h_PotSearch_weigh_70 hld hLd1 hQ hK19 _ 0 M13 h
def F_PotSearch_weigh (Ld1 : Nat) (M : gM) : Option (gM) :=
  bI (F_Main_wipe 394 3 M) (fun M2 => nmM (uM M2 391 3 0) (fun M3 => nmM (uM M3 391 4 0) (fun M4 => H_PotSearch_weigh_19 Ld1 FU 0 M4)))
set_option maxHeartbeats 4000000 in
set_option maxRecDepth 20000 in
theorem f_PotSearch_weigh {l : Launch} {ld : Nat} {M : gM} {L : gL} {Q : Option Value → gM → gL → gR → Prop} (hld : isLa ld) {Ld1 : Nat} (hLd1 : isLa Ld1) {q : gM} (h : F_PotSearch_weigh Ld1 M = some q) (hQ : Q none q L (rf ld)) : Tm l y_PotSearch_weigh (0, 0, 447) 447 [.ref 391, .ref Ld1] M L (rf ld) Q := by
  refine Tm.of (by decide) (Nat.le_of_ble_eq_true rfl) ?_
  show Wp l y_PotSearch_weigh (0, 0, 447) 447 0 0 0 [(0, .ref 391), (1, .ref Ld1)] [] M L (rf ld) Q
  unfold F_PotSearch_weigh at h
  refine g_aload_n (pc1 := 1) d_PotSearch_weigh_0 rfl 0 rfl ?_
  refine g_getr (pc1 := 4) d_PotSearch_weigh_1 rfl ⟨_, fo_PotSearch_18⟩ sh_391 (by decide) (rf_391_2 ld) ?_
  refine g_callS0 (pc1 := 7) (As := [.ref 394]) (rest := []) d_PotSearch_weigh_4 rfl mo_PotSearch_85 ms_Main_wipe (by decide) rfl rfl (Nat.le_of_ble_eq_true rfl) ?_
  obtain ⟨M2, hq1, h⟩ := bnd h
  refine f_Main_wipe hld sh_394 (by decide) (by decide) hq1 ?_
  dsimp only [psh]
  refine g_aload_n (pc1 := 8) d_PotSearch_weigh_7 rfl 0 rfl ?_
  refine g_iconst (pc1 := 9) (v := 0) d_PotSearch_weigh_8 rfl (by decide) ?_
  refine g_puti (pc1 := 12) d_PotSearch_weigh_9 rfl fo_PotSearch_56 (po_10_3 _) sh_391 (by decide) ?_
  refine Wp.lM h (fun M3 h => ?_)
  refine g_aload_n (pc1 := 13) d_PotSearch_weigh_12 rfl 0 rfl ?_
  refine g_iconst (pc1 := 14) (v := 0) d_PotSearch_weigh_13 rfl (by decide) ?_
  refine g_puti (pc1 := 17) d_PotSearch_weigh_14 rfl fo_PotSearch_89 (po_10_4 _) sh_391 (by decide) ?_
  refine Wp.lM h (fun M4 h => ?_)
  refine g_iconst (pc1 := 18) (v := 0) d_PotSearch_weigh_17 rfl (by decide) ?_
  refine g_istore_n (pc1 := 19) (lv' := [(0, .ref 391), (1, .ref Ld1), (2, .int 0)]) d_PotSearch_weigh_18 rfl rfl (by decide) [1, 2, 0] rfl ?_
  exact h_PotSearch_weigh_19 hld hLd1 hQ  _ 0 M4 h

def F_Reader_need (p1 : Int32) (M : gM) : Option (gM) :=
  bI (F_Reader_is p1 M) (fun r2 => (if r2 = 0 then bI (F_Reader_stop 1 M) (fun M5 => some M5) else bI (F_Reader_take M) (fun M7 => some M7)))
set_option maxHeartbeats 4000000 in
set_option maxRecDepth 20000 in
theorem f_Reader_need {l : Launch} {ld : Nat} {M : gM} {L : gL} {Q : Option Value → gM → gL → gR → Prop} (hld : isLa ld) {p1 : Int32}  {q : gM} (h : F_Reader_need p1 M = some q) (hQ : Q none q L (rf ld)) : Tm l y_Reader_need (0, 0, 447) 447 [.ref 3, .int p1] M L (rf ld) Q := by
  refine Tm.of (by decide) (Nat.le_of_ble_eq_true rfl) ?_
  show Wp l y_Reader_need (0, 0, 447) 447 0 0 0 [(0, .ref 3), (1, .int p1)] [] M L (rf ld) Q
  unfold F_Reader_need at h
  refine g_aload_n (pc1 := 1) d_Reader_need_0 rfl 0 rfl ?_
  refine g_iload_n (pc1 := 2) d_Reader_need_1 rfl 1 rfl ?_
  refine g_callV0 (pc1 := 5) (As := [.int p1]) (rest := []) d_Reader_need_2 rfl mo_Reader_51 mi_Reader_is mv_Reader_is rfl sh_3 (by decide) (by decide) rfl rfl (Nat.le_of_ble_eq_true rfl) ?_
  obtain ⟨r2, hq1, h⟩ := bnd h
  refine f_Reader_is hld  hq1 ?_
  dsimp only [psh]
  refine g_if_eq (pc1 := 8) (tgt := 15) d_Reader_need_5 (by decide) rfl (fun c3 => ?_) (fun c3 => ?_)
  · replace h := itp h c3
    refine g_aload_n (pc1 := 16) d_Reader_need_15 rfl 0 rfl ?_
    refine g_iconst (pc1 := 17) (v := 1) d_Reader_need_16 rfl (by decide) ?_
    refine g_callV0 (pc1 := 20) (As := [.int 1]) (rest := []) d_Reader_need_17 rfl mo_Reader_95 mi_Reader_stop mv_Reader_stop rfl sh_3 (by decide) (by decide) rfl rfl (Nat.le_of_ble_eq_true rfl) ?_
    obtain ⟨M5, hq4, h⟩ := bnd h
    refine f_Reader_stop hld  hq4 ?_
    dsimp only [psh]
    refine g_return rfl d_Reader_need_20 rfl ?_
    cases h; exact hQ
  · replace h := itn h c3
    refine g_aload_n (pc1 := 9) d_Reader_need_8 rfl 0 rfl ?_
    refine g_callV0 (pc1 := 12) (As := []) (rest := []) d_Reader_need_9 rfl mo_Reader_108 mi_Reader_take mv_Reader_take rfl sh_3 (by decide) (by decide) rfl rfl (Nat.le_of_ble_eq_true rfl) ?_
    obtain ⟨M7, hq6, h⟩ := bnd h
    refine f_Reader_take hld  hq6 ?_
    dsimp only [psh]
    refine g_goto (tgt := 20) d_Reader_need_12 (by decide) ?_
    refine g_return rfl d_Reader_need_20 rfl ?_
    cases h; exact hQ

def F_Reader_takeClose (Wl1 : Nat) (M : gM) : Option (gM) :=
  bI (F_Reader_is 41 M) (fun r2 => (if r2 = 0 then bI (F_Reader_stop 1 M) (fun M11 => some M11) else bI (F_Reader_layHeld Wl1 1 M) (fun M5 => nmM (uM M5 3 10 ((M5 3 10) - 1)) (fun M6 => nmM (uM M6 3 11 ((M6 3 11) - 1)) (fun M7 => bI (F_Reader_take M7) (fun M9 => some M9))))))
set_option maxHeartbeats 4000000 in
set_option maxRecDepth 20000 in
theorem f_Reader_takeClose {l : Launch} {ld : Nat} {M : gM} {L : gL} {Q : Option Value → gM → gL → gR → Prop} (hld : isLa ld) {Wl1 : Nat} (hWl1 : isLw Wl1) {q : gM} (h : F_Reader_takeClose Wl1 M = some q) (hQ : Q none q L (rf ld)) : Tm l y_Reader_takeClose (0, 0, 447) 447 [.ref 3, .ref Wl1] M L (rf ld) Q := by
  refine Tm.of (by decide) (Nat.le_of_ble_eq_true rfl) ?_
  show Wp l y_Reader_takeClose (0, 0, 447) 447 0 0 0 [(0, .ref 3), (1, .ref Wl1)] [] M L (rf ld) Q
  unfold F_Reader_takeClose at h
  refine g_aload_n (pc1 := 1) d_Reader_takeClose_0 rfl 0 rfl ?_
  refine g_bipush (pc1 := 3) (v := 41) d_Reader_takeClose_1 rfl (by decide) ?_
  refine g_callV0 (pc1 := 6) (As := [.int 41]) (rest := []) d_Reader_takeClose_3 rfl mo_Reader_51 mi_Reader_is mv_Reader_is rfl sh_3 (by decide) (by decide) rfl rfl (Nat.le_of_ble_eq_true rfl) ?_
  obtain ⟨r2, hq1, h⟩ := bnd h
  refine f_Reader_is hld  hq1 ?_
  dsimp only [psh]
  refine g_if_ne (pc1 := 9) (tgt := 15) d_Reader_takeClose_6 (by decide) rfl (fun c3 => ?_) (fun c3 => ?_)
  · replace h := itn h c3
    refine g_aload_n (pc1 := 16) d_Reader_takeClose_15 rfl 0 rfl ?_
    refine g_aload_n (pc1 := 17) d_Reader_takeClose_16 rfl 1 rfl ?_
    refine g_iconst (pc1 := 18) (v := 1) d_Reader_takeClose_17 rfl (by decide) ?_
    refine g_callV0 (pc1 := 21) (As := [.ref Wl1, .int 1]) (rest := []) d_Reader_takeClose_18 rfl mo_Reader_215 mi_Reader_layHeld mv_Reader_layHeld rfl sh_3 (by decide) (by decide) rfl rfl (Nat.le_of_ble_eq_true rfl) ?_
    obtain ⟨M5, hq4, h⟩ := bnd h
    refine f_Reader_layHeld hld hWl1 hq4 ?_
    dsimp only [psh]
    refine g_aload_n (pc1 := 22) d_Reader_takeClose_21 rfl 0 rfl ?_
    refine g_dup (pc1 := 23) d_Reader_takeClose_22 rfl rfl ?_
    refine g_geti (pc1 := 26) d_Reader_takeClose_23 rfl ⟨_, fo_Reader_199⟩ sh_3 (by decide) ?_
    refine g_iconst (pc1 := 27) (v := 1) d_Reader_takeClose_26 rfl (by decide) ?_
    refine g_isub (pc1 := 28) d_Reader_takeClose_27 rfl ?_
    refine g_puti (pc1 := 31) d_Reader_takeClose_28 rfl fo_Reader_199 (po_2_10 _) sh_3 (by decide) ?_
    refine Wp.lM h (fun M6 h => ?_)
    refine g_aload_n (pc1 := 32) d_Reader_takeClose_31 rfl 0 rfl ?_
    refine g_dup (pc1 := 33) d_Reader_takeClose_32 rfl rfl ?_
    refine g_geti (pc1 := 36) d_Reader_takeClose_33 rfl ⟨_, fo_Reader_196⟩ sh_3 (by decide) ?_
    refine g_iconst (pc1 := 37) (v := 1) d_Reader_takeClose_36 rfl (by decide) ?_
    refine g_isub (pc1 := 38) d_Reader_takeClose_37 rfl ?_
    refine g_puti (pc1 := 41) d_Reader_takeClose_38 rfl fo_Reader_196 (po_2_11 _) sh_3 (by decide) ?_
    refine Wp.lM h (fun M7 h => ?_)
    refine g_aload_n (pc1 := 42) d_Reader_takeClose_41 rfl 0 rfl ?_
    refine g_callV0 (pc1 := 45) (As := []) (rest := []) d_Reader_takeClose_42 rfl mo_Reader_108 mi_Reader_take mv_Reader_take rfl sh_3 (by decide) (by decide) rfl rfl (Nat.le_of_ble_eq_true rfl) ?_
    obtain ⟨M9, hq8, h⟩ := bnd h
    refine f_Reader_take hld  hq8 ?_
    dsimp only [psh]
    refine g_return rfl d_Reader_takeClose_45 rfl ?_
    cases h; exact hQ
  · replace h := itp h c3
    refine g_aload_n (pc1 := 10) d_Reader_takeClose_9 rfl 0 rfl ?_
    refine g_iconst (pc1 := 11) (v := 1) d_Reader_takeClose_10 rfl (by decide) ?_
    refine g_callV0 (pc1 := 14) (As := [.int 1]) (rest := []) d_Reader_takeClose_11 rfl mo_Reader_95 mi_Reader_stop mv_Reader_stop rfl sh_3 (by decide) (by decide) rfl rfl (Nat.le_of_ble_eq_true rfl) ?_
    obtain ⟨M11, hq10, h⟩ := bnd h
    refine f_Reader_stop hld  hq10 ?_
    dsimp only [psh]
    refine g_return rfl d_Reader_takeClose_14 rfl ?_
    cases h; exact hQ

def F_Reader_takeSign (Wl1 : Nat) (M : gM) : Option (gM) :=
  bI (F_Main_at 6 401 (M 3 1) M) (fun r2 => bI (F_Reader_rank r2) (fun r4 => bI (F_Reader_layHeld Wl1 r4 M) (fun M6 => bI (F_Reader_holdSign r2 M6) (fun M8 => bI (F_Reader_take M8) (fun M10 => some M10)))))
set_option maxHeartbeats 4000000 in
set_option maxRecDepth 20000 in
theorem f_Reader_takeSign {l : Launch} {ld : Nat} {M : gM} {L : gL} {Q : Option Value → gM → gL → gR → Prop} (hld : isLa ld) {Wl1 : Nat} (hWl1 : isLw Wl1) {q : gM} (h : F_Reader_takeSign Wl1 M = some q) (hQ : Q none q L (rf ld)) : Tm l y_Reader_takeSign (0, 0, 447) 447 [.ref 3, .ref Wl1] M L (rf ld) Q := by
  refine Tm.of (by decide) (Nat.le_of_ble_eq_true rfl) ?_
  show Wp l y_Reader_takeSign (0, 0, 447) 447 0 0 0 [(0, .ref 3), (1, .ref Wl1)] [] M L (rf ld) Q
  unfold F_Reader_takeSign at h
  refine g_aload_n (pc1 := 1) d_Reader_takeSign_0 rfl 0 rfl ?_
  refine g_getr (pc1 := 4) d_Reader_takeSign_1 rfl ⟨_, fo_Reader_12⟩ sh_3 (by decide) (rf_3_0 ld) ?_
  refine g_getr (pc1 := 7) d_Reader_takeSign_4 rfl ⟨_, fo_Reader_55⟩ sh_4 (by decide) (rf_4_1 ld) ?_
  refine g_aload_n (pc1 := 8) d_Reader_takeSign_7 rfl 0 rfl ?_
  refine g_geti (pc1 := 11) d_Reader_takeSign_8 rfl ⟨_, fo_Reader_38⟩ sh_3 (by decide) ?_
  refine g_callS0 (pc1 := 14) (As := [.ref 6, .int (M 3 1)]) (rest := []) d_Reader_takeSign_11 rfl mo_Reader_58 ms_Main_at (by decide) rfl rfl (Nat.le_of_ble_eq_true rfl) ?_
  obtain ⟨r2, hq1, h⟩ := bnd h
  refine f_Main_at hld sh_6 (by decide) (by decide) hq1 ?_
  dsimp only [psh]
  refine g_istore_n (pc1 := 15) (lv' := [(0, .ref 3), (1, .ref Wl1), (2, .int r2)]) d_Reader_takeSign_14 rfl rfl (by decide) [1, 2, 0] rfl ?_
  refine g_aload_n (pc1 := 16) d_Reader_takeSign_15 rfl 0 rfl ?_
  refine g_aload_n (pc1 := 17) d_Reader_takeSign_16 rfl 1 rfl ?_
  refine g_iload_n (pc1 := 18) d_Reader_takeSign_17 rfl 2 rfl ?_
  refine g_callS0 (pc1 := 21) (As := [.int r2]) (rest := [.ref Wl1, .ref 3]) d_Reader_takeSign_18 rfl mo_Reader_206 ms_Reader_rank (by decide) rfl rfl (Nat.le_of_ble_eq_true rfl) ?_
  obtain ⟨r4, hq3, h⟩ := bnd h
  refine f_Reader_rank hld  hq3 ?_
  dsimp only [psh]
  refine g_callV0 (pc1 := 24) (As := [.ref Wl1, .int r4]) (rest := []) d_Reader_takeSign_21 rfl mo_Reader_215 mi_Reader_layHeld mv_Reader_layHeld rfl sh_3 (by decide) (by decide) rfl rfl (Nat.le_of_ble_eq_true rfl) ?_
  obtain ⟨M6, hq5, h⟩ := bnd h
  refine f_Reader_layHeld hld hWl1 hq5 ?_
  dsimp only [psh]
  refine g_aload_n (pc1 := 25) d_Reader_takeSign_24 rfl 0 rfl ?_
  refine g_iload_n (pc1 := 26) d_Reader_takeSign_25 rfl 2 rfl ?_
  refine g_callV0 (pc1 := 29) (As := [.int r2]) (rest := []) d_Reader_takeSign_26 rfl mo_Reader_219 mi_Reader_holdSign mv_Reader_holdSign rfl sh_3 (by decide) (by decide) rfl rfl (Nat.le_of_ble_eq_true rfl) ?_
  obtain ⟨M8, hq7, h⟩ := bnd h
  refine f_Reader_holdSign hld  hq7 ?_
  dsimp only [psh]
  refine g_aload_n (pc1 := 30) d_Reader_takeSign_29 rfl 0 rfl ?_
  refine g_callV0 (pc1 := 33) (As := []) (rest := []) d_Reader_takeSign_30 rfl mo_Reader_108 mi_Reader_take mv_Reader_take rfl sh_3 (by decide) (by decide) rfl rfl (Nat.le_of_ble_eq_true rfl) ?_
  obtain ⟨M10, hq9, h⟩ := bnd h
  refine f_Reader_take hld  hq9 ?_
  dsimp only [psh]
  refine g_return rfl d_Reader_takeSign_33 rfl ?_
  cases h; exact hQ

def F_Reader_takeUnit (Wl1 : Nat) (M : gM) (L : gL) : Option (Int32 × gM) :=
  bI (F_Main_at 6 401 (M 3 1) M) (fun r2 => (if r2 = 40 then (if (M 3 11) < 6 then nmM (uM M 3 11 ((M 3 11) + 1)) (fun M21 => bI (F_Reader_holdSign 40 M21) (fun M23 => bI (F_Reader_take M23) (fun M25 => some (1, M25)))) else bI (F_Reader_stop 2 M) (fun M27 => some (1, M27))) else (if r2 = 3 then bI (F_Tokens_valueAt (M 3 1) L) (fun r15 => bI (F_Law_add Wl1 ((r15 : Int64).toInt32) M) (fun M17 => bI (F_Reader_take M17) (fun M19 => some (0, M19)))) else bI (F_Main_isOne (r2 - 140) 9) (fun r6 => (if r6 = 0 then bI (F_Reader_stop 1 M) (fun M9 => some (0, M9)) else bI (F_Law_add Wl1 ((10000 + r2) - 140) M) (fun M11 => bI (F_Reader_take M11) (fun M13 => some (0, M13))))))))
set_option maxHeartbeats 4000000 in
set_option maxRecDepth 20000 in
theorem f_Reader_takeUnit {l : Launch} {ld : Nat} {M : gM} {L : gL} {Q : Option Value → gM → gL → gR → Prop} (hld : isLa ld) {Wl1 : Nat} (hWl1 : isLw Wl1) {q : Int32 × gM} (h : F_Reader_takeUnit Wl1 M L = some q) (hQ : Q (some (.int q.1)) q.2 L (rf ld)) : Tm l y_Reader_takeUnit (0, 0, 447) 447 [.ref 3, .ref Wl1] M L (rf ld) Q := by
  refine Tm.of (by decide) (Nat.le_of_ble_eq_true rfl) ?_
  show Wp l y_Reader_takeUnit (0, 0, 447) 447 0 0 0 [(0, .ref 3), (1, .ref Wl1)] [] M L (rf ld) Q
  unfold F_Reader_takeUnit at h
  refine g_aload_n (pc1 := 1) d_Reader_takeUnit_0 rfl 0 rfl ?_
  refine g_getr (pc1 := 4) d_Reader_takeUnit_1 rfl ⟨_, fo_Reader_12⟩ sh_3 (by decide) (rf_3_0 ld) ?_
  refine g_getr (pc1 := 7) d_Reader_takeUnit_4 rfl ⟨_, fo_Reader_55⟩ sh_4 (by decide) (rf_4_1 ld) ?_
  refine g_aload_n (pc1 := 8) d_Reader_takeUnit_7 rfl 0 rfl ?_
  refine g_geti (pc1 := 11) d_Reader_takeUnit_8 rfl ⟨_, fo_Reader_38⟩ sh_3 (by decide) ?_
  refine g_callS0 (pc1 := 14) (As := [.ref 6, .int (M 3 1)]) (rest := []) d_Reader_takeUnit_11 rfl mo_Reader_58 ms_Main_at (by decide) rfl rfl (Nat.le_of_ble_eq_true rfl) ?_
  obtain ⟨r2, hq1, h⟩ := bnd h
  refine f_Main_at hld sh_6 (by decide) (by decide) hq1 ?_
  dsimp only [psh]
  refine g_istore_n (pc1 := 15) (lv' := [(0, .ref 3), (1, .ref Wl1), (2, .int r2)]) d_Reader_takeUnit_14 rfl rfl (by decide) [1, 2, 0] rfl ?_
  refine g_iload_n (pc1 := 16) d_Reader_takeUnit_15 rfl 2 rfl ?_
  refine g_bipush (pc1 := 18) (v := 40) d_Reader_takeUnit_16 rfl (by decide) ?_
  refine g_icmp_ne (pc1 := 21) (tgt := 59) d_Reader_takeUnit_18 (by decide) rfl (fun c3 => ?_) (fun c3 => ?_)
  · replace h := itn h c3
    refine g_iload_n (pc1 := 60) d_Reader_takeUnit_59 rfl 2 rfl ?_
    refine g_iconst (pc1 := 61) (v := 3) d_Reader_takeUnit_60 rfl (by decide) ?_
    refine g_icmp_ne (pc1 := 64) (tgt := 87) d_Reader_takeUnit_61 (by decide) rfl (fun c4 => ?_) (fun c4 => ?_)
    · replace h := itn h c4
      refine g_iload_n (pc1 := 88) d_Reader_takeUnit_87 rfl 2 rfl ?_
      refine g_sipush (pc1 := 91) (v := 140) d_Reader_takeUnit_88 rfl (by decide) ?_
      refine g_isub (pc1 := 92) d_Reader_takeUnit_91 rfl ?_
      refine g_bipush (pc1 := 94) (v := 9) d_Reader_takeUnit_92 rfl (by decide) ?_
      refine g_callS0 (pc1 := 97) (As := [.int (r2 - 140), .int 9]) (rest := []) d_Reader_takeUnit_94 rfl mo_Reader_225 ms_Main_isOne (by decide) rfl rfl (Nat.le_of_ble_eq_true rfl) ?_
      obtain ⟨r6, hq5, h⟩ := bnd h
      refine f_Main_isOne hld  hq5 ?_
      dsimp only [psh]
      refine g_if_eq (pc1 := 100) (tgt := 120) d_Reader_takeUnit_97 (by decide) rfl (fun c7 => ?_) (fun c7 => ?_)
      · replace h := itp h c7
        refine g_aload_n (pc1 := 121) d_Reader_takeUnit_120 rfl 0 rfl ?_
        refine g_iconst (pc1 := 122) (v := 1) d_Reader_takeUnit_121 rfl (by decide) ?_
        refine g_callV0 (pc1 := 125) (As := [.int 1]) (rest := []) d_Reader_takeUnit_122 rfl mo_Reader_95 mi_Reader_stop mv_Reader_stop rfl sh_3 (by decide) (by decide) rfl rfl (Nat.le_of_ble_eq_true rfl) ?_
        obtain ⟨M9, hq8, h⟩ := bnd h
        refine f_Reader_stop hld  hq8 ?_
        dsimp only [psh]
        refine g_iconst (pc1 := 126) (v := 0) d_Reader_takeUnit_125 rfl (by decide) ?_
        refine g_ireturn (Or.inr ⟨rfl, rfl⟩) d_Reader_takeUnit_126 rfl ?_
        cases h; exact hQ
      · replace h := itn h c7
        refine g_aload_n (pc1 := 101) d_Reader_takeUnit_100 rfl 1 rfl ?_
        refine g_sipush (pc1 := 104) (v := 10000) d_Reader_takeUnit_101 rfl (by decide) ?_
        refine g_iload_n (pc1 := 105) d_Reader_takeUnit_104 rfl 2 rfl ?_
        refine g_iadd (pc1 := 106) d_Reader_takeUnit_105 rfl ?_
        refine g_sipush (pc1 := 109) (v := 140) d_Reader_takeUnit_106 rfl (by decide) ?_
        refine g_isub (pc1 := 110) d_Reader_takeUnit_109 rfl ?_
        refine g_callV0 (pc1 := 113) (As := [.int ((10000 + r2) - 140)]) (rest := []) d_Reader_takeUnit_110 rfl mo_Reader_222 mi_Law_add mv_Law_add rfl (shLw_0 hWl1) (ltLw_0 hWl1) (by decide) rfl rfl (Nat.le_of_ble_eq_true rfl) ?_
        obtain ⟨M11, hq10, h⟩ := bnd h
        refine f_Law_add hld hWl1 hq10 ?_
        dsimp only [psh]
        refine g_aload_n (pc1 := 114) d_Reader_takeUnit_113 rfl 0 rfl ?_
        refine g_callV0 (pc1 := 117) (As := []) (rest := []) d_Reader_takeUnit_114 rfl mo_Reader_108 mi_Reader_take mv_Reader_take rfl sh_3 (by decide) (by decide) rfl rfl (Nat.le_of_ble_eq_true rfl) ?_
        obtain ⟨M13, hq12, h⟩ := bnd h
        refine f_Reader_take hld  hq12 ?_
        dsimp only [psh]
        refine g_goto (tgt := 125) d_Reader_takeUnit_117 (by decide) ?_
        refine g_iconst (pc1 := 126) (v := 0) d_Reader_takeUnit_125 rfl (by decide) ?_
        refine g_ireturn (Or.inr ⟨rfl, rfl⟩) d_Reader_takeUnit_126 rfl ?_
        cases h; exact hQ
    · replace h := itp h c4
      refine g_aload_n (pc1 := 65) d_Reader_takeUnit_64 rfl 1 rfl ?_
      refine g_aload_n (pc1 := 66) d_Reader_takeUnit_65 rfl 0 rfl ?_
      refine g_getr (pc1 := 69) d_Reader_takeUnit_66 rfl ⟨_, fo_Reader_12⟩ sh_3 (by decide) (rf_3_0 ld) ?_
      refine g_aload_n (pc1 := 70) d_Reader_takeUnit_69 rfl 0 rfl ?_
      refine g_geti (pc1 := 73) d_Reader_takeUnit_70 rfl ⟨_, fo_Reader_38⟩ sh_3 (by decide) ?_
      refine g_callV0 (pc1 := 76) (As := [.int (M 3 1)]) (rest := [.ref Wl1]) d_Reader_takeUnit_73 rfl mo_Reader_111 mi_Tokens_valueAt mv_Tokens_valueAt rfl sh_4 (by decide) (by decide) rfl rfl (Nat.le_of_ble_eq_true rfl) ?_
      obtain ⟨r15, hq14, h⟩ := bnd h
      refine f_Tokens_valueAt hld  hq14 ?_
      dsimp only [psh]
      refine g_l2i (pc1 := 77) d_Reader_takeUnit_76 rfl ?_
      refine g_callV0 (pc1 := 80) (As := [.int ((r15 : Int64).toInt32)]) (rest := []) d_Reader_takeUnit_77 rfl mo_Reader_222 mi_Law_add mv_Law_add rfl (shLw_0 hWl1) (ltLw_0 hWl1) (by decide) rfl rfl (Nat.le_of_ble_eq_true rfl) ?_
      obtain ⟨M17, hq16, h⟩ := bnd h
      refine f_Law_add hld hWl1 hq16 ?_
      dsimp only [psh]
      refine g_aload_n (pc1 := 81) d_Reader_takeUnit_80 rfl 0 rfl ?_
      refine g_callV0 (pc1 := 84) (As := []) (rest := []) d_Reader_takeUnit_81 rfl mo_Reader_108 mi_Reader_take mv_Reader_take rfl sh_3 (by decide) (by decide) rfl rfl (Nat.le_of_ble_eq_true rfl) ?_
      obtain ⟨M19, hq18, h⟩ := bnd h
      refine f_Reader_take hld  hq18 ?_
      dsimp only [psh]
      refine g_goto (tgt := 125) d_Reader_takeUnit_84 (by decide) ?_
      refine g_iconst (pc1 := 126) (v := 0) d_Reader_takeUnit_125 rfl (by decide) ?_
      refine g_ireturn (Or.inr ⟨rfl, rfl⟩) d_Reader_takeUnit_126 rfl ?_
      cases h; exact hQ
  · replace h := itp h c3
    refine g_aload_n (pc1 := 22) d_Reader_takeUnit_21 rfl 0 rfl ?_
    refine g_geti (pc1 := 25) d_Reader_takeUnit_22 rfl ⟨_, fo_Reader_196⟩ sh_3 (by decide) ?_
    refine g_bipush (pc1 := 27) (v := 6) d_Reader_takeUnit_25 rfl (by decide) ?_
    refine g_icmp_lt (pc1 := 30) (tgt := 37) d_Reader_takeUnit_27 (by decide) rfl (fun c20 => ?_) (fun c20 => ?_)
    · replace h := itp h c20
      refine g_aload_n (pc1 := 38) d_Reader_takeUnit_37 rfl 0 rfl ?_
      refine g_dup (pc1 := 39) d_Reader_takeUnit_38 rfl rfl ?_
      refine g_geti (pc1 := 42) d_Reader_takeUnit_39 rfl ⟨_, fo_Reader_196⟩ sh_3 (by decide) ?_
      refine g_iconst (pc1 := 43) (v := 1) d_Reader_takeUnit_42 rfl (by decide) ?_
      refine g_iadd (pc1 := 44) d_Reader_takeUnit_43 rfl ?_
      refine g_puti (pc1 := 47) d_Reader_takeUnit_44 rfl fo_Reader_196 (po_2_11 _) sh_3 (by decide) ?_
      refine Wp.lM h (fun M21 h => ?_)
      refine g_aload_n (pc1 := 48) d_Reader_takeUnit_47 rfl 0 rfl ?_
      refine g_bipush (pc1 := 50) (v := 40) d_Reader_takeUnit_48 rfl (by decide) ?_
      refine g_callV0 (pc1 := 53) (As := [.int 40]) (rest := []) d_Reader_takeUnit_50 rfl mo_Reader_219 mi_Reader_holdSign mv_Reader_holdSign rfl sh_3 (by decide) (by decide) rfl rfl (Nat.le_of_ble_eq_true rfl) ?_
      obtain ⟨M23, hq22, h⟩ := bnd h
      refine f_Reader_holdSign hld  hq22 ?_
      dsimp only [psh]
      refine g_aload_n (pc1 := 54) d_Reader_takeUnit_53 rfl 0 rfl ?_
      refine g_callV0 (pc1 := 57) (As := []) (rest := []) d_Reader_takeUnit_54 rfl mo_Reader_108 mi_Reader_take mv_Reader_take rfl sh_3 (by decide) (by decide) rfl rfl (Nat.le_of_ble_eq_true rfl) ?_
      obtain ⟨M25, hq24, h⟩ := bnd h
      refine f_Reader_take hld  hq24 ?_
      dsimp only [psh]
      refine g_iconst (pc1 := 58) (v := 1) d_Reader_takeUnit_57 rfl (by decide) ?_
      refine g_ireturn (Or.inr ⟨rfl, rfl⟩) d_Reader_takeUnit_58 rfl ?_
      cases h; exact hQ
    · replace h := itn h c20
      refine g_aload_n (pc1 := 31) d_Reader_takeUnit_30 rfl 0 rfl ?_
      refine g_iconst (pc1 := 32) (v := 2) d_Reader_takeUnit_31 rfl (by decide) ?_
      refine g_callV0 (pc1 := 35) (As := [.int 2]) (rest := []) d_Reader_takeUnit_32 rfl mo_Reader_95 mi_Reader_stop mv_Reader_stop rfl sh_3 (by decide) (by decide) rfl rfl (Nat.le_of_ble_eq_true rfl) ?_
      obtain ⟨M27, hq26, h⟩ := bnd h
      refine f_Reader_stop hld  hq26 ?_
      dsimp only [psh]
      refine g_iconst (pc1 := 36) (v := 1) d_Reader_takeUnit_35 rfl (by decide) ?_
      refine g_ireturn (Or.inr ⟨rfl, rfl⟩) d_Reader_takeUnit_36 rfl ?_
      cases h; exact hQ

def F_Slots_bring (p1 : Int32) (X2 : Nat) (M : gM) : Option (Int32 × gM) :=
  (if p1 < 0 then some (0, M) else (if 3 ≤ p1 then some (0, M) else (if (p1 : Int32) < 0 ∨ 3 ≤ (p1 : Int32).toNatClampNeg then none else bI (F_Main_hasBit (M 360 1) p1) (fun r5 => (if r5 = 0 then some (0, M) else (if (p1 : Int32) < 0 ∨ 3 ≤ (p1 : Int32).toNatClampNeg then none else bI (F_State_copyFrom X2 (362 + 7 * (p1 : Int32).toNatClampNeg) M) (fun M9 => some (1, M9))))))))
set_option maxHeartbeats 4000000 in
set_option maxRecDepth 20000 in
theorem f_Slots_bring {l : Launch} {ld : Nat} {M : gM} {L : gL} {Q : Option Value → gM → gL → gR → Prop} (hld : isLa ld) {p1 : Int32} {X2 : Nat} (hX2 : isSt X2) {q : Int32 × gM} (h : F_Slots_bring p1 X2 M = some q) (hQ : Q (some (.int q.1)) q.2 L (rf ld)) : Tm l y_Slots_bring (0, 0, 447) 447 [.ref 360, .int p1, .ref X2] M L (rf ld) Q := by
  refine Tm.of (by decide) (Nat.le_of_ble_eq_true rfl) ?_
  show Wp l y_Slots_bring (0, 0, 447) 447 0 0 0 [(0, .ref 360), (1, .int p1), (2, .ref X2)] [] M L (rf ld) Q
  unfold F_Slots_bring at h
  refine g_iload_n (pc1 := 1) d_Slots_bring_0 rfl 1 rfl ?_
  refine g_if_lt (pc1 := 4) (tgt := 33) d_Slots_bring_1 (by decide) rfl (fun c1 => ?_) (fun c1 => ?_)
  · replace h := itp h c1
    refine g_iconst (pc1 := 34) (v := 0) d_Slots_bring_33 rfl (by decide) ?_
    refine g_ireturn (Or.inr ⟨rfl, rfl⟩) d_Slots_bring_34 rfl ?_
    cases h; exact hQ
  · replace h := itn h c1
    refine g_iload_n (pc1 := 5) d_Slots_bring_4 rfl 1 rfl ?_
    refine g_aload_n (pc1 := 6) d_Slots_bring_5 rfl 0 rfl ?_
    refine g_getr (pc1 := 9) d_Slots_bring_6 rfl ⟨_, fo_Slots_11⟩ sh_360 (by decide) (rf_360_0 ld) ?_
    refine g_alen (pc1 := 10) (v := 3) d_Slots_bring_9 rfl sh_361 (by decide) (by decide) (by decide) (by decide) ?_
    refine g_icmp_ge (pc1 := 13) (tgt := 33) d_Slots_bring_10 (by decide) rfl (fun c2 => ?_) (fun c2 => ?_)
    · replace h := itp h c2
      refine g_iconst (pc1 := 34) (v := 0) d_Slots_bring_33 rfl (by decide) ?_
      refine g_ireturn (Or.inr ⟨rfl, rfl⟩) d_Slots_bring_34 rfl ?_
      cases h; exact hQ
    · replace h := itn h c2
      refine g_aload_n (pc1 := 14) d_Slots_bring_13 rfl 0 rfl ?_
      refine g_getr (pc1 := 17) d_Slots_bring_14 rfl ⟨_, fo_Slots_11⟩ sh_360 (by decide) (rf_360_0 ld) ?_
      refine g_iload_n (pc1 := 18) d_Slots_bring_17 rfl 1 rfl ?_
      obtain ⟨g3, h⟩ := gdn h
      refine g_aald (pc1 := 19) d_Slots_bring_18 rfl sh_361 (by decide) g3 (rfA_361 ld g3).2 ?_
      refine g_null (pc1 := 22) d_Slots_bring_19 rfl ?_
      refine g_aload_n (pc1 := 23) d_Slots_bring_22 rfl 0 rfl ?_
      refine g_geti (pc1 := 26) d_Slots_bring_23 rfl ⟨_, fo_Slots_18⟩ sh_360 (by decide) ?_
      refine g_iload_n (pc1 := 27) d_Slots_bring_26 rfl 1 rfl ?_
      refine g_callS0 (pc1 := 30) (As := [.int (M 360 1), .int p1]) (rest := []) d_Slots_bring_27 rfl mo_Slots_26 ms_Main_hasBit (by decide) rfl rfl (Nat.le_of_ble_eq_true rfl) ?_
      obtain ⟨r5, hq4, h⟩ := bnd h
      refine f_Main_hasBit hld  hq4 ?_
      dsimp only [psh]
      refine g_if_ne (pc1 := 33) (tgt := 35) d_Slots_bring_30 (by decide) rfl (fun c6 => ?_) (fun c6 => ?_)
      · replace h := itn h c6
        refine g_aload_n (pc1 := 36) d_Slots_bring_35 rfl 2 rfl ?_
        refine g_aload_n (pc1 := 37) d_Slots_bring_36 rfl 0 rfl ?_
        refine g_getr (pc1 := 40) d_Slots_bring_37 rfl ⟨_, fo_Slots_11⟩ sh_360 (by decide) (rf_360_0 ld) ?_
        refine g_iload_n (pc1 := 41) d_Slots_bring_40 rfl 1 rfl ?_
        obtain ⟨g7, h⟩ := gdn h
        refine g_aald (pc1 := 42) d_Slots_bring_41 rfl sh_361 (by decide) g7 (rfA_361 ld g7).2 ?_
        refine g_callV0 (pc1 := 45) (As := [.ref (362 + 7 * (p1 : Int32).toNatClampNeg)]) (rest := []) d_Slots_bring_42 rfl mo_Slots_22 mi_State_copyFrom mv_State_copyFrom rfl (shSt_0 hX2) (ltSt_0 hX2) (by decide) rfl rfl (Nat.le_of_ble_eq_true rfl) ?_
        obtain ⟨M9, hq8, h⟩ := bnd h
        refine f_State_copyFrom hld hX2 (rfA_361 ld g7).1 hq8 ?_
        dsimp only [psh]
        refine g_iconst (pc1 := 46) (v := 1) d_Slots_bring_45 rfl (by decide) ?_
        refine g_ireturn (Or.inr ⟨rfl, rfl⟩) d_Slots_bring_46 rfl ?_
        cases h; exact hQ
      · replace h := itp h c6
        refine g_iconst (pc1 := 34) (v := 0) d_Slots_bring_33 rfl (by decide) ?_
        refine g_ireturn (Or.inr ⟨rfl, rfl⟩) d_Slots_bring_34 rfl ?_
        cases h; exact hQ

def F_Slots_keep (p1 : Int32) (X2 : Nat) (M : gM) : Option (Int32 × gM) :=
  (if p1 < 0 then some (0, M) else (if 3 ≤ p1 then some (0, M) else (if (p1 : Int32) < 0 ∨ 3 ≤ (p1 : Int32).toNatClampNeg then none else (if (p1 : Int32) < 0 ∨ 3 ≤ (p1 : Int32).toNatClampNeg then none else bI (F_State_copyFrom (362 + 7 * (p1 : Int32).toNatClampNeg) X2 M) (fun M6 => nmM (uM M6 360 1 ((M6 360 1) ||| (1 <<< (p1 &&& 31)))) (fun M7 => some (1, M7)))))))
set_option maxHeartbeats 4000000 in
set_option maxRecDepth 20000 in
theorem f_Slots_keep {l : Launch} {ld : Nat} {M : gM} {L : gL} {Q : Option Value → gM → gL → gR → Prop} (hld : isLa ld) {p1 : Int32} {X2 : Nat} (hX2 : isSt X2) {q : Int32 × gM} (h : F_Slots_keep p1 X2 M = some q) (hQ : Q (some (.int q.1)) q.2 L (rf ld)) : Tm l y_Slots_keep (0, 0, 447) 447 [.ref 360, .int p1, .ref X2] M L (rf ld) Q := by
  refine Tm.of (by decide) (Nat.le_of_ble_eq_true rfl) ?_
  show Wp l y_Slots_keep (0, 0, 447) 447 0 0 0 [(0, .ref 360), (1, .int p1), (2, .ref X2)] [] M L (rf ld) Q
  unfold F_Slots_keep at h
  refine g_iload_n (pc1 := 1) d_Slots_keep_0 rfl 1 rfl ?_
  refine g_if_lt (pc1 := 4) (tgt := 22) d_Slots_keep_1 (by decide) rfl (fun c1 => ?_) (fun c1 => ?_)
  · replace h := itp h c1
    refine g_iconst (pc1 := 23) (v := 0) d_Slots_keep_22 rfl (by decide) ?_
    refine g_ireturn (Or.inr ⟨rfl, rfl⟩) d_Slots_keep_23 rfl ?_
    cases h; exact hQ
  · replace h := itn h c1
    refine g_iload_n (pc1 := 5) d_Slots_keep_4 rfl 1 rfl ?_
    refine g_aload_n (pc1 := 6) d_Slots_keep_5 rfl 0 rfl ?_
    refine g_getr (pc1 := 9) d_Slots_keep_6 rfl ⟨_, fo_Slots_11⟩ sh_360 (by decide) (rf_360_0 ld) ?_
    refine g_alen (pc1 := 10) (v := 3) d_Slots_keep_9 rfl sh_361 (by decide) (by decide) (by decide) (by decide) ?_
    refine g_icmp_ge (pc1 := 13) (tgt := 22) d_Slots_keep_10 (by decide) rfl (fun c2 => ?_) (fun c2 => ?_)
    · replace h := itp h c2
      refine g_iconst (pc1 := 23) (v := 0) d_Slots_keep_22 rfl (by decide) ?_
      refine g_ireturn (Or.inr ⟨rfl, rfl⟩) d_Slots_keep_23 rfl ?_
      cases h; exact hQ
    · replace h := itn h c2
      refine g_aload_n (pc1 := 14) d_Slots_keep_13 rfl 0 rfl ?_
      refine g_getr (pc1 := 17) d_Slots_keep_14 rfl ⟨_, fo_Slots_11⟩ sh_360 (by decide) (rf_360_0 ld) ?_
      refine g_iload_n (pc1 := 18) d_Slots_keep_17 rfl 1 rfl ?_
      obtain ⟨g3, h⟩ := gdn h
      refine g_aald (pc1 := 19) d_Slots_keep_18 rfl sh_361 (by decide) g3 (rfA_361 ld g3).2 ?_
      refine g_nonnull (tgt := 24) d_Slots_keep_19 (by decide) ?_
      refine g_aload_n (pc1 := 25) d_Slots_keep_24 rfl 0 rfl ?_
      refine g_getr (pc1 := 28) d_Slots_keep_25 rfl ⟨_, fo_Slots_11⟩ sh_360 (by decide) (rf_360_0 ld) ?_
      refine g_iload_n (pc1 := 29) d_Slots_keep_28 rfl 1 rfl ?_
      obtain ⟨g4, h⟩ := gdn h
      refine g_aald (pc1 := 30) d_Slots_keep_29 rfl sh_361 (by decide) g4 (rfA_361 ld g4).2 ?_
      refine g_aload_n (pc1 := 31) d_Slots_keep_30 rfl 2 rfl ?_
      refine g_callV0 (pc1 := 34) (As := [.ref X2]) (rest := []) d_Slots_keep_31 rfl mo_Slots_22 mi_State_copyFrom mv_State_copyFrom rfl (shSt_0 (rfA_361 ld g4).1) (ltSt_0 (rfA_361 ld g4).1) (by decide) rfl rfl (Nat.le_of_ble_eq_true rfl) ?_
      obtain ⟨M6, hq5, h⟩ := bnd h
      refine f_State_copyFrom hld (rfA_361 ld g4).1 hX2 hq5 ?_
      dsimp only [psh]
      refine g_aload_n (pc1 := 35) d_Slots_keep_34 rfl 0 rfl ?_
      refine g_dup (pc1 := 36) d_Slots_keep_35 rfl rfl ?_
      refine g_geti (pc1 := 39) d_Slots_keep_36 rfl ⟨_, fo_Slots_18⟩ sh_360 (by decide) ?_
      refine g_iconst (pc1 := 40) (v := 1) d_Slots_keep_39 rfl (by decide) ?_
      refine g_iload_n (pc1 := 41) d_Slots_keep_40 rfl 1 rfl ?_
      refine g_ishl (pc1 := 42) d_Slots_keep_41 rfl ?_
      refine g_ior (pc1 := 43) d_Slots_keep_42 rfl ?_
      refine g_puti (pc1 := 46) d_Slots_keep_43 rfl fo_Slots_18 (po_8_1 _) sh_360 (by decide) ?_
      refine Wp.lM h (fun M7 h => ?_)
      refine g_iconst (pc1 := 47) (v := 1) d_Slots_keep_46 rfl (by decide) ?_
      refine g_ireturn (Or.inr ⟨rfl, rfl⟩) d_Slots_keep_47 rfl ?_
      cases h; exact hQ

def B_State_inStore_2 (X0 : Nat) (Ld1 : Nat) (v2 : Int32) (M : gM) (K2 : Int32 → Option (Int32)) : Int32 → Option (Int32) := fun v3 =>
  (if (M Ld1 0) ≤ v3 then some 1 else bI (F_Main_at (X0 + 2) 6 v3 M) (fun r3 => bI (F_Land_inDish Ld1 v2 v3 M) (fun r5 => (if r5 ≤ r3 then nmI (v3 + 1) (fun x7 => K2 x7) else some 0))))
def H_State_inStore_2 (X0 : Nat) (Ld1 : Nat) (v2 : Int32) (M : gM) : Nat → Int32 → Option (Int32) := lpK (B_State_inStore_2 X0 Ld1 v2 M) (fun _ => none)
set_option maxHeartbeats 4000000 in
set_option maxRecDepth 20000 in
theorem h_State_inStore_2 {l : Launch} {ld : Nat} {Q : Option Value → gM → gL → gR → Prop} (hld : isLa ld) {X0 : Nat} {Ld1 : Nat} (hX0 : isSt X0) (hLd1 : isLa Ld1) {q : Int32} {M : gM} {L : gL} (hQ : Q (some (.int q)) M L (rf ld))  {v2 : Int32}  : ∀ (f : Nat) (v3 : Int32), H_State_inStore_2 X0 Ld1 v2 M f v3 = some q → Wp l y_State_inStore (0, 0, 447) 447 0 0 2 [(0, .ref X0), (1, .ref Ld1), (2, .int v2), (3, .int v3)] [] M L (rf ld) Q := by
  intro f
  induction f with
  | zero => intro v3 h; cases h
  | succ f hK2 =>
    intro v3 h
    replace h : B_State_inStore_2 X0 Ld1 v2 M (H_State_inStore_2 X0 Ld1 v2 M f) v3 = some q := h
    unfold B_State_inStore_2 at h
    refine g_iload_n (pc1 := 3) d_State_inStore_2 rfl 3 rfl ?_
    refine g_aload_n (pc1 := 4) d_State_inStore_3 rfl 1 rfl ?_
    refine g_geti (pc1 := 7) d_State_inStore_4 rfl ⟨_, fo_State_47⟩ (shLa_0 hLd1) (ltLa_0 hLd1) ?_
    refine g_icmp_ge (pc1 := 10) (tgt := 35) d_State_inStore_7 (by decide) rfl (fun c1 => ?_) (fun c1 => ?_)
    · replace h := itp h c1
      refine g_iconst (pc1 := 36) (v := 1) d_State_inStore_35 rfl (by decide) ?_
      refine g_ireturn (Or.inr ⟨rfl, rfl⟩) d_State_inStore_36 rfl ?_
      cases h; exact hQ
    · replace h := itn h c1
      refine g_aload_n (pc1 := 11) d_State_inStore_10 rfl 0 rfl ?_
      refine g_getr (pc1 := 14) d_State_inStore_11 rfl ⟨_, fo_State_19⟩ (shSt_0 hX0) (ltSt_0 hX0) (rfSt_5 ld hX0) ?_
      refine g_iload_n (pc1 := 15) d_State_inStore_14 rfl 3 rfl ?_
      refine g_callS0 (pc1 := 18) (As := [.ref (X0 + 2), .int v3]) (rest := []) d_State_inStore_15 rfl mo_State_53 ms_Main_at (by decide) rfl rfl (Nat.le_of_ble_eq_true rfl) ?_
      obtain ⟨r3, hq2, h⟩ := bnd h
      refine f_Main_at hld (shSt_2 hX0) (ltSt_2 hX0) (by decide) hq2 ?_
      dsimp only [psh]
      refine g_aload_n (pc1 := 19) d_State_inStore_18 rfl 1 rfl ?_
      refine g_iload_n (pc1 := 20) d_State_inStore_19 rfl 2 rfl ?_
      refine g_iload_n (pc1 := 21) d_State_inStore_20 rfl 3 rfl ?_
      refine g_callV0 (pc1 := 24) (As := [.int v2, .int v3]) (rest := [.int r3]) d_State_inStore_21 rfl mo_State_65 mi_Land_inDish mv_Land_inDish rfl (shLa_0 hLd1) (ltLa_0 hLd1) (by decide) rfl rfl (Nat.le_of_ble_eq_true rfl) ?_
      obtain ⟨r5, hq4, h⟩ := bnd h
      refine f_Land_inDish hld hLd1 hq4 ?_
      dsimp only [psh]
      refine g_icmp_ge (pc1 := 27) (tgt := 29) d_State_inStore_24 (by decide) rfl (fun c6 => ?_) (fun c6 => ?_)
      · replace h := itp h c6
        obtain ⟨x7, ex7, h⟩ := ltI h
        refine g_iinc (pc1 := 32) (v := x7) (lv' := [(0, .ref X0), (1, .ref Ld1), (2, .int v2), (3, .int x7)]) d_State_inStore_29 rfl 3 rfl (by rw [ex7]; rfl) (by decide) [1, 2, 3, 0] rfl ?_
        refine g_goto (tgt := 2) d_State_inStore_32 (by decide) ?_
        exact hK2 x7 h
      · replace h := itn h c6
        refine g_iconst (pc1 := 28) (v := 0) d_State_inStore_27 rfl (by decide) ?_
        refine g_ireturn (Or.inr ⟨rfl, rfl⟩) d_State_inStore_28 rfl ?_
        cases h; exact hQ
def F_State_inStore (X0 : Nat) (Ld1 : Nat) (p2 : Int32) (M : gM) : Option (Int32) :=
  H_State_inStore_2 X0 Ld1 p2 M FU 0
set_option maxHeartbeats 4000000 in
set_option maxRecDepth 20000 in
theorem f_State_inStore {l : Launch} {ld : Nat} {M : gM} {L : gL} {Q : Option Value → gM → gL → gR → Prop} (hld : isLa ld) {X0 : Nat} {Ld1 : Nat} {p2 : Int32} (hX0 : isSt X0) (hLd1 : isLa Ld1) {q : Int32} (h : F_State_inStore X0 Ld1 p2 M = some q) (hQ : Q (some (.int q)) M L (rf ld)) : Tm l y_State_inStore (0, 0, 447) 447 [.ref X0, .ref Ld1, .int p2] M L (rf ld) Q := by
  refine Tm.of (by decide) (Nat.le_of_ble_eq_true rfl) ?_
  show Wp l y_State_inStore (0, 0, 447) 447 0 0 0 [(0, .ref X0), (1, .ref Ld1), (2, .int p2)] [] M L (rf ld) Q
  unfold F_State_inStore at h
  refine g_iconst (pc1 := 1) (v := 0) d_State_inStore_0 rfl (by decide) ?_
  refine g_istore_n (pc1 := 2) (lv' := [(0, .ref X0), (1, .ref Ld1), (2, .int p2), (3, .int 0)]) d_State_inStore_1 rfl rfl (by decide) [1, 2, 3, 0] rfl ?_
  exact h_State_inStore_2 hld hX0 hLd1 hQ  _ 0 h

def J_Tokens_cutOne_82 (v2 : Int32) (s1 : Int32) (s2 : Int32) (M : gM) (L : gL) : Option (Int32 × gM × gL) :=
  bI2 (F_Tokens_set s1 s2 0 M L) (fun M10 L11 => some ((v2 + 1), M10, L11))
set_option maxHeartbeats 4000000 in
set_option maxRecDepth 20000 in
theorem j_Tokens_cutOne_82 {l : Launch} {ld : Nat} {Q : Option Value → gM → gL → gR → Prop} (hld : isLa ld)   {q : Int32 × gM × gL} {M : gM} {L : gL} (hQ : Q (some (.int q.1)) q.2.1 q.2.2 (rf ld))  {v2 : Int32} {s1 : Int32} {s2 : Int32}  (h : J_Tokens_cutOne_82 v2 s1 s2 M L = some q) : Wp l y_Tokens_cutOne (0, 0, 447) 447 0 0 82 [(2, .int v2)] [.int s2, .int s1, .ref 4] M L (rf ld) Q := by
  unfold J_Tokens_cutOne_82 at h
  refine g_lconst (pc1 := 83) (v := 0) d_Tokens_cutOne_82 rfl (by decide) ?_
  refine g_callV0 (pc1 := 86) (As := [.int s1, .int s2, .long 0]) (rest := []) d_Tokens_cutOne_83 rfl mo_Tokens_74 mi_Tokens_set mv_Tokens_set rfl sh_4 (by decide) (by decide) rfl rfl (Nat.le_of_ble_eq_true rfl) ?_
  obtain ⟨M10, L11, hq9, h⟩ := bnd2 h
  refine f_Tokens_set hld  hq9 ?_
  dsimp only [psh]
  refine g_iload_n (pc1 := 87) d_Tokens_cutOne_86 rfl 0 rfl ?_
  refine g_iconst (pc1 := 88) (v := 1) d_Tokens_cutOne_87 rfl (by decide) ?_
  refine g_iadd (pc1 := 89) d_Tokens_cutOne_88 rfl ?_
  refine g_ireturn (Or.inl rfl) d_Tokens_cutOne_89 rfl ?_
  cases h; exact hQ
def J_Tokens_cutOne_51 (v2 : Int32) (v3 : Int32) (v4 : Int32) (M : gM) (L : gL) : Option (Int32 × gM × gL) :=
  (if 0 ≤ v4 then bI (F_Tokens_isSign v4) (fun r7 => (if r7 = 0 then J_Tokens_cutOne_82 v2 v3 1 M L else J_Tokens_cutOne_82 v2 v3 v4 M L)) else bI2 (F_Tokens_set v3 0 0 M L) (fun M13 L14 => some ((v2 + 1), M13, L14)))
set_option maxHeartbeats 4000000 in
set_option maxRecDepth 20000 in
theorem j_Tokens_cutOne_51 {l : Launch} {ld : Nat} {Q : Option Value → gM → gL → gR → Prop} (hld : isLa ld)   {q : Int32 × gM × gL} {M : gM} {L : gL} (hQ : Q (some (.int q.1)) q.2.1 q.2.2 (rf ld))  {v2 : Int32} {v3 : Int32} {v4 : Int32}  (h : J_Tokens_cutOne_51 v2 v3 v4 M L = some q) : Wp l y_Tokens_cutOne (0, 0, 447) 447 0 0 51 [(0, .ref 4), (2, .int v2), (3, .int v3), (4, .int v4)] [] M L (rf ld) Q := by
  unfold J_Tokens_cutOne_51 at h
  refine g_iload (pc1 := 53) d_Tokens_cutOne_51 rfl 3 rfl ?_
  refine g_if_ge (pc1 := 56) (tgt := 66) d_Tokens_cutOne_53 (by decide) rfl (fun c5 => ?_) (fun c5 => ?_)
  · replace h := itp h c5
    refine g_aload_n (pc1 := 67) d_Tokens_cutOne_66 rfl 0 rfl ?_
    refine g_iload_n (pc1 := 68) d_Tokens_cutOne_67 rfl 2 rfl ?_
    refine g_iload (pc1 := 70) d_Tokens_cutOne_68 rfl 3 rfl ?_
    refine g_callS0 (pc1 := 73) (As := [.int v4]) (rest := [.int v3, .ref 4]) d_Tokens_cutOne_70 rfl mo_Tokens_78 ms_Tokens_isSign (by decide) rfl rfl (Nat.le_of_ble_eq_true rfl) ?_
    obtain ⟨r7, hq6, h⟩ := bnd h
    refine f_Tokens_isSign hld  hq6 ?_
    dsimp only [psh]
    refine g_if_eq (pc1 := 76) (tgt := 81) d_Tokens_cutOne_73 (by decide) rfl (fun c8 => ?_) (fun c8 => ?_)
    · replace h := itp h c8
      refine g_iconst (pc1 := 82) (v := 1) d_Tokens_cutOne_81 rfl (by decide) ?_
      refine Wp.loc (lv' := [(2, .int v2)]) [1] rfl ?_
      exact j_Tokens_cutOne_82 hld  hQ  h
    · replace h := itn h c8
      refine g_iload (pc1 := 78) d_Tokens_cutOne_76 rfl 3 rfl ?_
      refine g_goto (tgt := 82) d_Tokens_cutOne_78 (by decide) ?_
      refine Wp.loc (lv' := [(2, .int v2)]) [1] rfl ?_
      exact j_Tokens_cutOne_82 hld  hQ  h
  · replace h := itn h c5
    refine g_aload_n (pc1 := 57) d_Tokens_cutOne_56 rfl 0 rfl ?_
    refine g_iload_n (pc1 := 58) d_Tokens_cutOne_57 rfl 2 rfl ?_
    refine g_iconst (pc1 := 59) (v := 0) d_Tokens_cutOne_58 rfl (by decide) ?_
    refine g_lconst (pc1 := 60) (v := 0) d_Tokens_cutOne_59 rfl (by decide) ?_
    refine g_callV0 (pc1 := 63) (As := [.int v3, .int 0, .long 0]) (rest := []) d_Tokens_cutOne_60 rfl mo_Tokens_74 mi_Tokens_set mv_Tokens_set rfl sh_4 (by decide) (by decide) rfl rfl (Nat.le_of_ble_eq_true rfl) ?_
    obtain ⟨M13, L14, hq12, h⟩ := bnd2 h
    refine f_Tokens_set hld  hq12 ?_
    dsimp only [psh]
    refine g_goto (tgt := 86) d_Tokens_cutOne_63 (by decide) ?_
    refine g_iload_n (pc1 := 87) d_Tokens_cutOne_86 rfl 1 rfl ?_
    refine g_iconst (pc1 := 88) (v := 1) d_Tokens_cutOne_87 rfl (by decide) ?_
    refine g_iadd (pc1 := 89) d_Tokens_cutOne_88 rfl ?_
    refine g_ireturn (Or.inl rfl) d_Tokens_cutOne_89 rfl ?_
    cases h; exact hQ
def J_Tokens_cutOne_29 (v2 : Int32) (v3 : Int32) (v4 : Int32) (M : gM) (L : gL) : Option (Int32 × gM × gL) :=
  (if v4 < 48 then J_Tokens_cutOne_51 v2 v3 v4 M L else (if 57 < v4 then J_Tokens_cutOne_51 v2 v3 v4 M L else bI3 (F_Tokens_cutDigits v2 v3 M L) (fun r17 M18 L19 => some (r17, M18, L19))))
set_option maxHeartbeats 4000000 in
set_option maxRecDepth 20000 in
theorem j_Tokens_cutOne_29 {l : Launch} {ld : Nat} {Q : Option Value → gM → gL → gR → Prop} (hld : isLa ld)   {q : Int32 × gM × gL} {M : gM} {L : gL} (hQ : Q (some (.int q.1)) q.2.1 q.2.2 (rf ld))  {v2 : Int32} {v3 : Int32} {v4 : Int32}  (h : J_Tokens_cutOne_29 v2 v3 v4 M L = some q) : Wp l y_Tokens_cutOne (0, 0, 447) 447 0 0 29 [(0, .ref 4), (1, .ref 1), (2, .int v2), (3, .int v3), (4, .int v4)] [] M L (rf ld) Q := by
  unfold J_Tokens_cutOne_29 at h
  refine g_iload (pc1 := 31) d_Tokens_cutOne_29 rfl 4 rfl ?_
  refine g_bipush (pc1 := 33) (v := 48) d_Tokens_cutOne_31 rfl (by decide) ?_
  refine g_icmp_lt (pc1 := 36) (tgt := 51) d_Tokens_cutOne_33 (by decide) rfl (fun c4 => ?_) (fun c4 => ?_)
  · replace h := itp h c4
    refine Wp.loc (lv' := [(0, .ref 4), (2, .int v2), (3, .int v3), (4, .int v4)]) [0, 2, 3, 4] rfl ?_
    exact j_Tokens_cutOne_51 hld  hQ  h
  · replace h := itn h c4
    refine g_iload (pc1 := 38) d_Tokens_cutOne_36 rfl 4 rfl ?_
    refine g_bipush (pc1 := 40) (v := 57) d_Tokens_cutOne_38 rfl (by decide) ?_
    refine g_icmp_gt (pc1 := 43) (tgt := 51) d_Tokens_cutOne_40 (by decide) rfl (fun c15 => ?_) (fun c15 => ?_)
    · replace h := itp h c15
      refine Wp.loc (lv' := [(0, .ref 4), (2, .int v2), (3, .int v3), (4, .int v4)]) [0, 2, 3, 4] rfl ?_
      exact j_Tokens_cutOne_51 hld  hQ  h
    · replace h := itn h c15
      refine g_aload_n (pc1 := 44) d_Tokens_cutOne_43 rfl 0 rfl ?_
      refine g_aload_n (pc1 := 45) d_Tokens_cutOne_44 rfl 1 rfl ?_
      refine g_iload_n (pc1 := 46) d_Tokens_cutOne_45 rfl 2 rfl ?_
      refine g_iload_n (pc1 := 47) d_Tokens_cutOne_46 rfl 3 rfl ?_
      refine g_callV0 (pc1 := 50) (As := [.ref 1, .int v2, .int v3]) (rest := []) d_Tokens_cutOne_47 rfl mo_Tokens_71 mi_Tokens_cutDigits mv_Tokens_cutDigits rfl sh_4 (by decide) (by decide) rfl rfl (Nat.le_of_ble_eq_true rfl) ?_
      obtain ⟨r17, M18, L19, hq16, h⟩ := bnd3 h
      refine f_Tokens_cutDigits hld  hq16 ?_
      dsimp only [psh]
      refine g_ireturn (Or.inl rfl) d_Tokens_cutOne_50 rfl ?_
      cases h; exact hQ
def F_Tokens_cutOne (p2 : Int32) (p3 : Int32) (M : gM) (L : gL) : Option (Int32 × gM × gL) :=
  bI (F_Tape_byteAt p2 M) (fun r2 => (if r2 < 97 then J_Tokens_cutOne_29 p2 p3 r2 M L else (if 122 < r2 then J_Tokens_cutOne_29 p2 p3 r2 M L else bI3 (F_Tokens_cutLetters p2 p3 M L) (fun r22 M23 L24 => some (r22, M23, L24)))))
set_option maxHeartbeats 4000000 in
set_option maxRecDepth 20000 in
theorem f_Tokens_cutOne {l : Launch} {ld : Nat} {M : gM} {L : gL} {Q : Option Value → gM → gL → gR → Prop} (hld : isLa ld) {p2 : Int32} {p3 : Int32}  {q : Int32 × gM × gL} (h : F_Tokens_cutOne p2 p3 M L = some q) (hQ : Q (some (.int q.1)) q.2.1 q.2.2 (rf ld)) : Tm l y_Tokens_cutOne (0, 0, 447) 447 [.ref 4, .ref 1, .int p2, .int p3] M L (rf ld) Q := by
  refine Tm.of (by decide) (Nat.le_of_ble_eq_true rfl) ?_
  show Wp l y_Tokens_cutOne (0, 0, 447) 447 0 0 0 [(0, .ref 4), (1, .ref 1), (2, .int p2), (3, .int p3)] [] M L (rf ld) Q
  unfold F_Tokens_cutOne at h
  refine g_aload_n (pc1 := 1) d_Tokens_cutOne_0 rfl 1 rfl ?_
  refine g_iload_n (pc1 := 2) d_Tokens_cutOne_1 rfl 2 rfl ?_
  refine g_callV0 (pc1 := 5) (As := [.int p2]) (rest := []) d_Tokens_cutOne_2 rfl mo_Tokens_60 mi_Tape_byteAt mv_Tape_byteAt rfl sh_1 (by decide) (by decide) rfl rfl (Nat.le_of_ble_eq_true rfl) ?_
  obtain ⟨r2, hq1, h⟩ := bnd h
  refine f_Tape_byteAt hld  hq1 ?_
  dsimp only [psh]
  refine g_istore (pc1 := 7) (lv' := [(0, .ref 4), (1, .ref 1), (2, .int p2), (3, .int p3), (4, .int r2)]) d_Tokens_cutOne_5 rfl (by decide) [1, 2, 3, 4, 0] rfl ?_
  refine g_iload (pc1 := 9) d_Tokens_cutOne_7 rfl 4 rfl ?_
  refine g_bipush (pc1 := 11) (v := 97) d_Tokens_cutOne_9 rfl (by decide) ?_
  refine g_icmp_lt (pc1 := 14) (tgt := 29) d_Tokens_cutOne_11 (by decide) rfl (fun c3 => ?_) (fun c3 => ?_)
  · replace h := itp h c3
    exact j_Tokens_cutOne_29 hld  hQ  h
  · replace h := itn h c3
    refine g_iload (pc1 := 16) d_Tokens_cutOne_14 rfl 4 rfl ?_
    refine g_bipush (pc1 := 18) (v := 122) d_Tokens_cutOne_16 rfl (by decide) ?_
    refine g_icmp_gt (pc1 := 21) (tgt := 29) d_Tokens_cutOne_18 (by decide) rfl (fun c20 => ?_) (fun c20 => ?_)
    · replace h := itp h c20
      exact j_Tokens_cutOne_29 hld  hQ  h
    · replace h := itn h c20
      refine g_aload_n (pc1 := 22) d_Tokens_cutOne_21 rfl 0 rfl ?_
      refine g_aload_n (pc1 := 23) d_Tokens_cutOne_22 rfl 1 rfl ?_
      refine g_iload_n (pc1 := 24) d_Tokens_cutOne_23 rfl 2 rfl ?_
      refine g_iload_n (pc1 := 25) d_Tokens_cutOne_24 rfl 3 rfl ?_
      refine g_callV0 (pc1 := 28) (As := [.ref 1, .int p2, .int p3]) (rest := []) d_Tokens_cutOne_25 rfl mo_Tokens_68 mi_Tokens_cutLetters mv_Tokens_cutLetters rfl sh_4 (by decide) (by decide) rfl rfl (Nat.le_of_ble_eq_true rfl) ?_
      obtain ⟨r22, M23, L24, hq21, h⟩ := bnd3 h
      refine f_Tokens_cutLetters hld  hq21 ?_
      dsimp only [psh]
      refine g_ireturn (Or.inl rfl) d_Tokens_cutOne_28 rfl ?_
      cases h; exact hQ

def F_Main_hold (p1 : Int32) (M : gM) : Option (Int32 × gM) :=
  bI2 (F_Slots_keep p1 64 M) (fun r2 M3 => (if r2 = 0 ∨ r2 = 1 then some (r2, M3) else none))
set_option maxHeartbeats 4000000 in
set_option maxRecDepth 20000 in
theorem f_Main_hold {l : Launch} {ld : Nat} {M : gM} {L : gL} {Q : Option Value → gM → gL → gR → Prop} (hld : isLa ld) {p1 : Int32}  {q : Int32 × gM} (h : F_Main_hold p1 M = some q) (hQ : Q (some (.int q.1)) q.2 L (rf ld)) : Tm l y_Main_hold (0, 0, 447) 447 [.ref 0, .int p1] M L (rf ld) Q := by
  refine Tm.of (by decide) (Nat.le_of_ble_eq_true rfl) ?_
  show Wp l y_Main_hold (0, 0, 447) 447 0 0 0 [(0, .ref 0), (1, .int p1)] [] M L (rf ld) Q
  unfold F_Main_hold at h
  refine g_aload_n (pc1 := 1) d_Main_hold_0 rfl 0 rfl ?_
  refine g_getr (pc1 := 4) d_Main_hold_1 rfl ⟨_, fo_Main_53⟩ sh_0 (by decide) (rf_0_7 ld) ?_
  refine g_iload_n (pc1 := 5) d_Main_hold_4 rfl 1 rfl ?_
  refine g_aload_n (pc1 := 6) d_Main_hold_5 rfl 0 rfl ?_
  refine g_getr (pc1 := 9) d_Main_hold_6 rfl ⟨_, fo_Main_36⟩ sh_0 (by decide) (rf_0_4 ld) ?_
  refine g_callV0 (pc1 := 12) (As := [.int p1, .ref 64]) (rest := []) d_Main_hold_9 rfl mo_Main_291 mi_Slots_keep mv_Slots_keep rfl sh_360 (by decide) (by decide) rfl rfl (Nat.le_of_ble_eq_true rfl) ?_
  obtain ⟨r2, M3, hq1, h⟩ := bnd2 h
  refine f_Slots_keep hld isSt_64 hq1 ?_
  dsimp only [psh]
  obtain ⟨g4, h⟩ := gdp h
  refine g_ireturn (Or.inr ⟨rfl, nar01 g4⟩) d_Main_hold_12 rfl ?_
  cases h; exact hQ

def F_Main_restore (p1 : Int32) (M : gM) : Option (Int32 × gM) :=
  bI2 (F_Slots_bring p1 64 M) (fun r2 M3 => (if r2 = 0 then some (0, M3) else bI (F_Past_clear M3) (fun M6 => some (1, M6))))
set_option maxHeartbeats 4000000 in
set_option maxRecDepth 20000 in
theorem f_Main_restore {l : Launch} {ld : Nat} {M : gM} {L : gL} {Q : Option Value → gM → gL → gR → Prop} (hld : isLa ld) {p1 : Int32}  {q : Int32 × gM} (h : F_Main_restore p1 M = some q) (hQ : Q (some (.int q.1)) q.2 L (rf ld)) : Tm l y_Main_restore (0, 0, 447) 447 [.ref 0, .int p1] M L (rf ld) Q := by
  refine Tm.of (by decide) (Nat.le_of_ble_eq_true rfl) ?_
  show Wp l y_Main_restore (0, 0, 447) 447 0 0 0 [(0, .ref 0), (1, .int p1)] [] M L (rf ld) Q
  unfold F_Main_restore at h
  refine g_aload_n (pc1 := 1) d_Main_restore_0 rfl 0 rfl ?_
  refine g_getr (pc1 := 4) d_Main_restore_1 rfl ⟨_, fo_Main_53⟩ sh_0 (by decide) (rf_0_7 ld) ?_
  refine g_iload_n (pc1 := 5) d_Main_restore_4 rfl 1 rfl ?_
  refine g_aload_n (pc1 := 6) d_Main_restore_5 rfl 0 rfl ?_
  refine g_getr (pc1 := 9) d_Main_restore_6 rfl ⟨_, fo_Main_36⟩ sh_0 (by decide) (rf_0_4 ld) ?_
  refine g_callV0 (pc1 := 12) (As := [.int p1, .ref 64]) (rest := []) d_Main_restore_9 rfl mo_Main_294 mi_Slots_bring mv_Slots_bring rfl sh_360 (by decide) (by decide) rfl rfl (Nat.le_of_ble_eq_true rfl) ?_
  obtain ⟨r2, M3, hq1, h⟩ := bnd2 h
  refine f_Slots_bring hld isSt_64 hq1 ?_
  dsimp only [psh]
  refine g_if_ne (pc1 := 15) (tgt := 17) d_Main_restore_12 (by decide) rfl (fun c4 => ?_) (fun c4 => ?_)
  · replace h := itn h c4
    refine g_aload_n (pc1 := 18) d_Main_restore_17 rfl 0 rfl ?_
    refine g_getr (pc1 := 21) d_Main_restore_18 rfl ⟨_, fo_Main_46⟩ sh_0 (by decide) (rf_0_6 ld) ?_
    refine g_callV0 (pc1 := 24) (As := []) (rest := []) d_Main_restore_21 rfl mo_Main_104 mi_Past_clear mv_Past_clear rfl sh_78 (by decide) (by decide) rfl rfl (Nat.le_of_ble_eq_true rfl) ?_
    obtain ⟨M6, hq5, h⟩ := bnd h
    refine f_Past_clear hld  hq5 ?_
    dsimp only [psh]
    refine g_iconst (pc1 := 25) (v := 1) d_Main_restore_24 rfl (by decide) ?_
    refine g_ireturn (Or.inr ⟨rfl, rfl⟩) d_Main_restore_25 rfl ?_
    cases h; exact hQ
  · replace h := itp h c4
    refine g_iconst (pc1 := 16) (v := 0) d_Main_restore_15 rfl (by decide) ?_
    refine g_ireturn (Or.inr ⟨rfl, rfl⟩) d_Main_restore_16 rfl ?_
    cases h; exact hQ
end MG4x1
section MG4x2
def F_Main_undo (M : gM) : Option (Int32 × gM) :=
  bI2 (F_Past_takeBack 64 M) (fun r2 M3 => (if r2 = 0 ∨ r2 = 1 then some (r2, M3) else none))
set_option maxHeartbeats 4000000 in
set_option maxRecDepth 20000 in
theorem f_Main_undo {l : Launch} {ld : Nat} {M : gM} {L : gL} {Q : Option Value → gM → gL → gR → Prop} (hld : isLa ld)   {q : Int32 × gM} (h : F_Main_undo M = some q) (hQ : Q (some (.int q.1)) q.2 L (rf ld)) : Tm l y_Main_undo (0, 0, 447) 447 [.ref 0] M L (rf ld) Q := by
  refine Tm.of (by decide) (Nat.le_of_ble_eq_true rfl) ?_
  show Wp l y_Main_undo (0, 0, 447) 447 0 0 0 [(0, .ref 0)] [] M L (rf ld) Q
  unfold F_Main_undo at h
  refine g_aload_n (pc1 := 1) d_Main_undo_0 rfl 0 rfl ?_
  refine g_getr (pc1 := 4) d_Main_undo_1 rfl ⟨_, fo_Main_46⟩ sh_0 (by decide) (rf_0_6 ld) ?_
  refine g_aload_n (pc1 := 5) d_Main_undo_4 rfl 0 rfl ?_
  refine g_getr (pc1 := 8) d_Main_undo_5 rfl ⟨_, fo_Main_36⟩ sh_0 (by decide) (rf_0_4 ld) ?_
  refine g_callV0 (pc1 := 11) (As := [.ref 64]) (rest := []) d_Main_undo_8 rfl mo_Main_218 mi_Past_takeBack mv_Past_takeBack rfl sh_78 (by decide) (by decide) rfl rfl (Nat.le_of_ble_eq_true rfl) ?_
  obtain ⟨r2, M3, hq1, h⟩ := bnd2 h
  refine f_Past_takeBack hld isSt_64 hq1 ?_
  dsimp only [psh]
  obtain ⟨g4, h⟩ := gdp h
  refine g_ireturn (Or.inr ⟨rfl, nar01 g4⟩) d_Main_undo_11 rfl ?_
  cases h; exact hQ

def J_Land_dishForce_33 (Ld0 : Nat) (v1 : Int32) (v3 : Int32) (v4 : Int32) (v5 : Int32) (v6 : Int32) (M : gM) : Option (Int32 × gM) :=
  bI (F_Main_at (Ld0 + 4) 5 v1 M) (fun r7 => bI2 (F_Land_potForce Ld0 v3 v5 r7 v6 v4 M) (fun r9 M10 => some (r9, M10)))
set_option maxHeartbeats 4000000 in
set_option maxRecDepth 20000 in
theorem j_Land_dishForce_33 {l : Launch} {ld : Nat} {Q : Option Value → gM → gL → gR → Prop} (hld : isLa ld) {Ld0 : Nat} (hLd0 : isLa Ld0) {q : Int32 × gM} {M : gM} {L : gL} (hQ : Q (some (.int q.1)) q.2 L (rf ld))  {v1 : Int32} {v3 : Int32} {v4 : Int32} {v5 : Int32} {v6 : Int32}  (h : J_Land_dishForce_33 Ld0 v1 v3 v4 v5 v6 M = some q) : Wp l y_Land_dishForce (0, 0, 447) 447 0 0 33 [(0, .ref Ld0), (1, .int v1), (3, .int v3), (4, .int v4), (5, .int v5), (6, .int v6)] [] M L (rf ld) Q := by
  unfold J_Land_dishForce_33 at h
  refine g_aload_n (pc1 := 34) d_Land_dishForce_33 rfl 0 rfl ?_
  refine g_iload_n (pc1 := 35) d_Land_dishForce_34 rfl 2 rfl ?_
  refine g_iload (pc1 := 37) d_Land_dishForce_35 rfl 4 rfl ?_
  refine g_aload_n (pc1 := 38) d_Land_dishForce_37 rfl 0 rfl ?_
  refine g_getr (pc1 := 41) d_Land_dishForce_38 rfl ⟨_, fo_Land_21⟩ (shLa_0 hLd0) (ltLa_0 hLd0) (rfLa_8 ld hLd0) ?_
  refine g_iload_n (pc1 := 42) d_Land_dishForce_41 rfl 1 rfl ?_
  refine g_callS0 (pc1 := 45) (As := [.ref (Ld0 + 4), .int v1]) (rest := [.int v5, .int v3, .ref Ld0]) d_Land_dishForce_42 rfl mo_Land_78 ms_Main_at (by decide) rfl rfl (Nat.le_of_ble_eq_true rfl) ?_
  obtain ⟨r7, hq6, h⟩ := bnd h
  refine f_Main_at hld (shLa_4 hLd0) (ltLa_4 hLd0) (by decide) hq6 ?_
  dsimp only [psh]
  refine g_iload (pc1 := 47) d_Land_dishForce_45 rfl 5 rfl ?_
  refine g_iload (pc1 := 49) d_Land_dishForce_47 rfl 3 rfl ?_
  refine g_callV0 (pc1 := 52) (As := [.int v3, .int v5, .int r7, .int v6, .int v4]) (rest := []) d_Land_dishForce_49 rfl mo_Land_112 mi_Land_potForce mv_Land_potForce rfl (shLa_0 hLd0) (ltLa_0 hLd0) (by decide) rfl rfl (Nat.le_of_ble_eq_true rfl) ?_
  obtain ⟨r9, M10, hq8, h⟩ := bnd2 h
  refine f_Land_potForce hld hLd0 hq8 ?_
  dsimp only [psh]
  refine g_ireturn (Or.inl rfl) d_Land_dishForce_52 rfl ?_
  cases h; exact hQ
def F_Land_dishForce (Ld0 : Nat) (p1 : Int32) (p2 : Int32) (p3 : Int32) (p4 : Int32) (M : gM) : Option (Int32 × gM) :=
  bI (F_Land_sumOf Ld0 p1 p3 M) (fun r2 => bI (F_Land_manyIn Ld0 p1 M) (fun r4 => (if p2 < 0 then J_Land_dishForce_33 Ld0 p1 p3 p4 r2 r4 M else bI (F_Land_broughtBy Ld0 p2 p3 M) (fun r12 => nmI (r2 + r12) (fun x13 => nmI (r4 + 1) (fun x14 => J_Land_dishForce_33 Ld0 p1 p3 p4 x13 x14 M))))))
set_option maxHeartbeats 4000000 in
set_option maxRecDepth 20000 in
theorem f_Land_dishForce {l : Launch} {ld : Nat} {M : gM} {L : gL} {Q : Option Value → gM → gL → gR → Prop} (hld : isLa ld) {Ld0 : Nat} {p1 : Int32} {p2 : Int32} {p3 : Int32} {p4 : Int32} (hLd0 : isLa Ld0) {q : Int32 × gM} (h : F_Land_dishForce Ld0 p1 p2 p3 p4 M = some q) (hQ : Q (some (.int q.1)) q.2 L (rf ld)) : Tm l y_Land_dishForce (0, 0, 447) 447 [.ref Ld0, .int p1, .int p2, .int p3, .int p4] M L (rf ld) Q := by
  refine Tm.of (by decide) (Nat.le_of_ble_eq_true rfl) ?_
  show Wp l y_Land_dishForce (0, 0, 447) 447 0 0 0 [(0, .ref Ld0), (1, .int p1), (2, .int p2), (3, .int p3), (4, .int p4)] [] M L (rf ld) Q
  unfold F_Land_dishForce at h
  refine g_aload_n (pc1 := 1) d_Land_dishForce_0 rfl 0 rfl ?_
  refine g_iload_n (pc1 := 2) d_Land_dishForce_1 rfl 1 rfl ?_
  refine g_iload_n (pc1 := 3) d_Land_dishForce_2 rfl 3 rfl ?_
  refine g_callV0 (pc1 := 6) (As := [.int p1, .int p3]) (rest := []) d_Land_dishForce_3 rfl mo_Land_105 mi_Land_sumOf mv_Land_sumOf rfl (shLa_0 hLd0) (ltLa_0 hLd0) (by decide) rfl rfl (Nat.le_of_ble_eq_true rfl) ?_
  obtain ⟨r2, hq1, h⟩ := bnd h
  refine f_Land_sumOf hld hLd0 hq1 ?_
  dsimp only [psh]
  refine g_istore (pc1 := 8) (lv' := [(0, .ref Ld0), (1, .int p1), (2, .int p2), (3, .int p3), (4, .int p4), (5, .int r2)]) d_Land_dishForce_6 rfl (by decide) [1, 2, 3, 4, 5, 0] rfl ?_
  refine g_aload_n (pc1 := 9) d_Land_dishForce_8 rfl 0 rfl ?_
  refine g_iload_n (pc1 := 10) d_Land_dishForce_9 rfl 1 rfl ?_
  refine g_callV0 (pc1 := 13) (As := [.int p1]) (rest := []) d_Land_dishForce_10 rfl mo_Land_108 mi_Land_manyIn mv_Land_manyIn rfl (shLa_0 hLd0) (ltLa_0 hLd0) (by decide) rfl rfl (Nat.le_of_ble_eq_true rfl) ?_
  obtain ⟨r4, hq3, h⟩ := bnd h
  refine f_Land_manyIn hld hLd0 hq3 ?_
  dsimp only [psh]
  refine g_istore (pc1 := 15) (lv' := [(0, .ref Ld0), (1, .int p1), (2, .int p2), (3, .int p3), (4, .int p4), (5, .int r2), (6, .int r4)]) d_Land_dishForce_13 rfl (by decide) [1, 2, 3, 4, 5, 6, 0] rfl ?_
  refine g_iload_n (pc1 := 16) d_Land_dishForce_15 rfl 2 rfl ?_
  refine g_if_lt (pc1 := 19) (tgt := 33) d_Land_dishForce_16 (by decide) rfl (fun c5 => ?_) (fun c5 => ?_)
  · replace h := itp h c5
    refine Wp.loc (lv' := [(0, .ref Ld0), (1, .int p1), (3, .int p3), (4, .int p4), (5, .int r2), (6, .int r4)]) [0, 1, 3, 4, 5, 6] rfl ?_
    exact j_Land_dishForce_33 hld hLd0 hQ  h
  · replace h := itn h c5
    refine g_iload (pc1 := 21) d_Land_dishForce_19 rfl 5 rfl ?_
    refine g_aload_n (pc1 := 22) d_Land_dishForce_21 rfl 0 rfl ?_
    refine g_iload_n (pc1 := 23) d_Land_dishForce_22 rfl 2 rfl ?_
    refine g_iload_n (pc1 := 24) d_Land_dishForce_23 rfl 3 rfl ?_
    refine g_callV0 (pc1 := 27) (As := [.int p2, .int p3]) (rest := [.int r2]) d_Land_dishForce_24 rfl mo_Land_86 mi_Land_broughtBy mv_Land_broughtBy rfl (shLa_0 hLd0) (ltLa_0 hLd0) (by decide) rfl rfl (Nat.le_of_ble_eq_true rfl) ?_
    obtain ⟨r12, hq11, h⟩ := bnd h
    refine f_Land_broughtBy hld hLd0 hq11 ?_
    dsimp only [psh]
    refine g_iadd (pc1 := 28) d_Land_dishForce_27 rfl ?_
    refine Wp.lI h (fun x13 h => ?_)
    refine g_istore (pc1 := 30) (lv' := [(0, .ref Ld0), (1, .int p1), (2, .int p2), (3, .int p3), (4, .int p4), (5, .int x13), (6, .int r4)]) d_Land_dishForce_28 rfl (by decide) [1, 2, 3, 4, 5, 0, 6] rfl ?_
    obtain ⟨x14, ex14, h⟩ := ltI h
    refine g_iinc (pc1 := 33) (v := x14) (lv' := [(0, .ref Ld0), (1, .int p1), (2, .int p2), (3, .int p3), (4, .int p4), (5, .int x13), (6, .int x14)]) d_Land_dishForce_30 rfl 6 rfl (by rw [ex14]; rfl) (by decide) [1, 2, 3, 4, 5, 6, 0] rfl ?_
    refine Wp.loc (lv' := [(0, .ref Ld0), (1, .int p1), (3, .int p3), (4, .int p4), (5, .int x13), (6, .int x14)]) [0, 1, 3, 4, 5, 6] rfl ?_
    exact j_Land_dishForce_33 hld hLd0 hQ  h

def F_Land_slipsOf (Ld0 : Nat) (p1 : Int32) (p2 : Int32) (M : gM) : Option (Int32 × gM) :=
  bI (F_Law_isTold (Ld0 + 21) M) (fun r2 => (if r2 = 0 then some (0, M) else bI (F_Main_at (Ld0 + 4) 5 p1 M) (fun r5 => bI (F_Law_let (Ld0 + 21) 1 r5 M) (fun M7 => bI (F_Land_manyIn Ld0 p1 M7) (fun r9 => bI (F_Law_let (Ld0 + 21) 3 r9 M7) (fun M11 => bI (F_Law_let (Ld0 + 21) 4 p2 M11) (fun M13 => bI2 (F_Law_value (Ld0 + 21) M13) (fun r15 M16 => bI (F_Main_within r15 0 100) (fun r18 => some (r18, M16))))))))))
set_option maxHeartbeats 4000000 in
set_option maxRecDepth 20000 in
theorem f_Land_slipsOf {l : Launch} {ld : Nat} {M : gM} {L : gL} {Q : Option Value → gM → gL → gR → Prop} (hld : isLa ld) {Ld0 : Nat} {p1 : Int32} {p2 : Int32} (hLd0 : isLa Ld0) {q : Int32 × gM} (h : F_Land_slipsOf Ld0 p1 p2 M = some q) (hQ : Q (some (.int q.1)) q.2 L (rf ld)) : Tm l y_Land_slipsOf (0, 0, 447) 447 [.ref Ld0, .int p1, .int p2] M L (rf ld) Q := by
  refine Tm.of (by decide) (Nat.le_of_ble_eq_true rfl) ?_
  show Wp l y_Land_slipsOf (0, 0, 447) 447 0 0 0 [(0, .ref Ld0), (1, .int p1), (2, .int p2)] [] M L (rf ld) Q
  unfold F_Land_slipsOf at h
  refine g_aload_n (pc1 := 1) d_Land_slipsOf_0 rfl 0 rfl ?_
  refine g_getr (pc1 := 4) d_Land_slipsOf_1 rfl ⟨_, fo_Land_49⟩ (shLa_0 hLd0) (ltLa_0 hLd0) (rfLa_16 ld hLd0) ?_
  refine g_callV0 (pc1 := 7) (As := []) (rest := []) d_Land_slipsOf_4 rfl mo_Land_89 mi_Law_isTold mv_Law_isTold rfl (shLw_0 (isLw_21 hLd0)) (ltLw_0 (isLw_21 hLd0)) (by decide) rfl rfl (Nat.le_of_ble_eq_true rfl) ?_
  obtain ⟨r2, hq1, h⟩ := bnd h
  refine f_Law_isTold hld (isLw_21 hLd0) hq1 ?_
  dsimp only [psh]
  refine g_if_ne (pc1 := 10) (tgt := 12) d_Land_slipsOf_7 (by decide) rfl (fun c3 => ?_) (fun c3 => ?_)
  · replace h := itn h c3
    refine g_aload_n (pc1 := 13) d_Land_slipsOf_12 rfl 0 rfl ?_
    refine g_getr (pc1 := 16) d_Land_slipsOf_13 rfl ⟨_, fo_Land_49⟩ (shLa_0 hLd0) (ltLa_0 hLd0) (rfLa_16 ld hLd0) ?_
    refine g_iconst (pc1 := 17) (v := 1) d_Land_slipsOf_16 rfl (by decide) ?_
    refine g_aload_n (pc1 := 18) d_Land_slipsOf_17 rfl 0 rfl ?_
    refine g_getr (pc1 := 21) d_Land_slipsOf_18 rfl ⟨_, fo_Land_21⟩ (shLa_0 hLd0) (ltLa_0 hLd0) (rfLa_8 ld hLd0) ?_
    refine g_iload_n (pc1 := 22) d_Land_slipsOf_21 rfl 1 rfl ?_
    refine g_callS0 (pc1 := 25) (As := [.ref (Ld0 + 4), .int p1]) (rest := [.int 1, .ref (Ld0 + 21)]) d_Land_slipsOf_22 rfl mo_Land_78 ms_Main_at (by decide) rfl rfl (Nat.le_of_ble_eq_true rfl) ?_
    obtain ⟨r5, hq4, h⟩ := bnd h
    refine f_Main_at hld (shLa_4 hLd0) (ltLa_4 hLd0) (by decide) hq4 ?_
    dsimp only [psh]
    refine g_callV0 (pc1 := 28) (As := [.int 1, .int r5]) (rest := []) d_Land_slipsOf_25 rfl mo_Land_97 mi_Law_let mv_Law_let rfl (shLw_0 (isLw_21 hLd0)) (ltLw_0 (isLw_21 hLd0)) (by decide) rfl rfl (Nat.le_of_ble_eq_true rfl) ?_
    obtain ⟨M7, hq6, h⟩ := bnd h
    refine f_Law_let hld (isLw_21 hLd0) hq6 ?_
    dsimp only [psh]
    refine g_aload_n (pc1 := 29) d_Land_slipsOf_28 rfl 0 rfl ?_
    refine g_getr (pc1 := 32) d_Land_slipsOf_29 rfl ⟨_, fo_Land_49⟩ (shLa_0 hLd0) (ltLa_0 hLd0) (rfLa_16 ld hLd0) ?_
    refine g_iconst (pc1 := 33) (v := 3) d_Land_slipsOf_32 rfl (by decide) ?_
    refine g_aload_n (pc1 := 34) d_Land_slipsOf_33 rfl 0 rfl ?_
    refine g_iload_n (pc1 := 35) d_Land_slipsOf_34 rfl 1 rfl ?_
    refine g_callV0 (pc1 := 38) (As := [.int p1]) (rest := [.int 3, .ref (Ld0 + 21)]) d_Land_slipsOf_35 rfl mo_Land_108 mi_Land_manyIn mv_Land_manyIn rfl (shLa_0 hLd0) (ltLa_0 hLd0) (by decide) rfl rfl (Nat.le_of_ble_eq_true rfl) ?_
    obtain ⟨r9, hq8, h⟩ := bnd h
    refine f_Land_manyIn hld hLd0 hq8 ?_
    dsimp only [psh]
    refine g_callV0 (pc1 := 41) (As := [.int 3, .int r9]) (rest := []) d_Land_slipsOf_38 rfl mo_Land_97 mi_Law_let mv_Law_let rfl (shLw_0 (isLw_21 hLd0)) (ltLw_0 (isLw_21 hLd0)) (by decide) rfl rfl (Nat.le_of_ble_eq_true rfl) ?_
    obtain ⟨M11, hq10, h⟩ := bnd h
    refine f_Law_let hld (isLw_21 hLd0) hq10 ?_
    dsimp only [psh]
    refine g_aload_n (pc1 := 42) d_Land_slipsOf_41 rfl 0 rfl ?_
    refine g_getr (pc1 := 45) d_Land_slipsOf_42 rfl ⟨_, fo_Land_49⟩ (shLa_0 hLd0) (ltLa_0 hLd0) (rfLa_16 ld hLd0) ?_
    refine g_iconst (pc1 := 46) (v := 4) d_Land_slipsOf_45 rfl (by decide) ?_
    refine g_iload_n (pc1 := 47) d_Land_slipsOf_46 rfl 2 rfl ?_
    refine g_callV0 (pc1 := 50) (As := [.int 4, .int p2]) (rest := []) d_Land_slipsOf_47 rfl mo_Land_97 mi_Law_let mv_Law_let rfl (shLw_0 (isLw_21 hLd0)) (ltLw_0 (isLw_21 hLd0)) (by decide) rfl rfl (Nat.le_of_ble_eq_true rfl) ?_
    obtain ⟨M13, hq12, h⟩ := bnd h
    refine f_Law_let hld (isLw_21 hLd0) hq12 ?_
    dsimp only [psh]
    refine g_aload_n (pc1 := 51) d_Land_slipsOf_50 rfl 0 rfl ?_
    refine g_getr (pc1 := 54) d_Land_slipsOf_51 rfl ⟨_, fo_Land_49⟩ (shLa_0 hLd0) (ltLa_0 hLd0) (rfLa_16 ld hLd0) ?_
    refine g_callV0 (pc1 := 57) (As := []) (rest := []) d_Land_slipsOf_54 rfl mo_Land_101 mi_Law_value mv_Law_value rfl (shLw_0 (isLw_21 hLd0)) (ltLw_0 (isLw_21 hLd0)) (by decide) rfl rfl (Nat.le_of_ble_eq_true rfl) ?_
    obtain ⟨r15, M16, hq14, h⟩ := bnd2 h
    refine f_Law_value hld (isLw_21 hLd0) hq14 ?_
    dsimp only [psh]
    refine g_iconst (pc1 := 58) (v := 0) d_Land_slipsOf_57 rfl (by decide) ?_
    refine g_bipush (pc1 := 60) (v := 100) d_Land_slipsOf_58 rfl (by decide) ?_
    refine g_callS0 (pc1 := 63) (As := [.int r15, .int 0, .int 100]) (rest := []) d_Land_slipsOf_60 rfl mo_Land_93 ms_Main_within (by decide) rfl rfl (Nat.le_of_ble_eq_true rfl) ?_
    obtain ⟨r18, hq17, h⟩ := bnd h
    refine f_Main_within hld  hq17 ?_
    dsimp only [psh]
    refine g_ireturn (Or.inl rfl) d_Land_slipsOf_63 rfl ?_
    cases h; exact hQ
  · replace h := itp h c3
    refine g_iconst (pc1 := 11) (v := 0) d_Land_slipsOf_10 rfl (by decide) ?_
    refine g_ireturn (Or.inl rfl) d_Land_slipsOf_11 rfl ?_
    cases h; exact hQ

def J_PotSearch_isEnough_53 (Ld1 : Nat) (K3 : Int32 → gM → Option (Int32 × gM)) (v2 : Int32) (v3 : Int32) (v4 : Int32) (M : gM) : Option (Int32 × gM) :=
  nmI (v4 + 1) (fun x5 => K3 x5 M)
set_option maxHeartbeats 4000000 in
set_option maxRecDepth 20000 in
theorem j_PotSearch_isEnough_53 {l : Launch} {ld : Nat} {Q : Option Value → gM → gL → gR → Prop} (hld : isLa ld) {Ld1 : Nat} (hLd1 : isLa Ld1) {q : Int32 × gM} {M : gM} {L : gL} (hQ : Q (some (.int q.1)) q.2 L (rf ld)) {K3 : Int32 → gM → Option (Int32 × gM)} {v2 : Int32} {v3 : Int32} {v4 : Int32} (hK3 : ∀ (w4 : Int32) (M : gM), K3 w4 M = some q → Wp l y_PotSearch_isEnough (0, 0, 447) 447 0 0 3 [(0, .ref 391), (1, .ref Ld1), (2, .int v2), (3, .int v3), (4, .int w4)] [] M L (rf ld) Q) (h : J_PotSearch_isEnough_53 Ld1 K3 v2 v3 v4 M = some q) : Wp l y_PotSearch_isEnough (0, 0, 447) 447 0 0 53 [(0, .ref 391), (1, .ref Ld1), (2, .int v2), (3, .int v3), (4, .int v4)] [] M L (rf ld) Q := by
  unfold J_PotSearch_isEnough_53 at h
  obtain ⟨x5, ex5, h⟩ := ltI h
  refine g_iinc (pc1 := 56) (v := x5) (lv' := [(0, .ref 391), (1, .ref Ld1), (2, .int v2), (3, .int v3), (4, .int x5)]) d_PotSearch_isEnough_53 rfl 4 rfl (by rw [ex5]; rfl) (by decide) [1, 2, 3, 4, 0] rfl ?_
  refine g_goto (tgt := 3) d_PotSearch_isEnough_56 (by decide) ?_
  exact hK3 x5 M h
def B_PotSearch_isEnough_3 (Ld1 : Nat) (v2 : Int32) (v3 : Int32) (K3 : Int32 → gM → Option (Int32 × gM)) : Int32 → gM → Option (Int32 × gM) := fun v4 M =>
  (if 3 ≤ v4 then some (1, M) else bI (F_Main_at 392 3 v4 M) (fun r3 => (if r3 ≤ 0 then J_PotSearch_isEnough_53 Ld1 K3 v2 v3 v4 M else bI (F_Main_at 394 3 v4 M) (fun r7 => bI2 (F_Land_potForce Ld1 v4 r7 v2 (M 391 3) v3 M) (fun r9 M10 => (if r3 ≤ r9 then J_PotSearch_isEnough_53 Ld1 K3 v2 v3 v4 M10 else some (0, M10)))))))
def H_PotSearch_isEnough_3 (Ld1 : Nat) (v2 : Int32) (v3 : Int32) : Nat → Int32 → gM → Option (Int32 × gM) := lpK (B_PotSearch_isEnough_3 Ld1 v2 v3) (fun _ _ => none)
set_option maxHeartbeats 4000000 in
set_option maxRecDepth 20000 in
theorem h_PotSearch_isEnough_3 {l : Launch} {ld : Nat} {Q : Option Value → gM → gL → gR → Prop} (hld : isLa ld) {Ld1 : Nat} (hLd1 : isLa Ld1) {q : Int32 × gM} {L : gL} (hQ : Q (some (.int q.1)) q.2 L (rf ld))  {v2 : Int32} {v3 : Int32}  : ∀ (f : Nat) (v4 : Int32) (M : gM), H_PotSearch_isEnough_3 Ld1 v2 v3 f v4 M = some q → Wp l y_PotSearch_isEnough (0, 0, 447) 447 0 0 3 [(0, .ref 391), (1, .ref Ld1), (2, .int v2), (3, .int v3), (4, .int v4)] [] M L (rf ld) Q := by
  intro f
  induction f with
  | zero => intro v4 M h; cases h
  | succ f hK3 =>
    intro v4 M h
    replace h : B_PotSearch_isEnough_3 Ld1 v2 v3 (H_PotSearch_isEnough_3 Ld1 v2 v3 f) v4 M = some q := h
    unfold B_PotSearch_isEnough_3 at h
    refine g_iload (pc1 := 5) d_PotSearch_isEnough_3 rfl 4 rfl ?_
    refine g_iconst (pc1 := 6) (v := 3) d_PotSearch_isEnough_5 rfl (by decide) ?_
    refine g_icmp_ge (pc1 := 9) (tgt := 59) d_PotSearch_isEnough_6 (by decide) rfl (fun c1 => ?_) (fun c1 => ?_)
    · replace h := itp h c1
      refine g_iconst (pc1 := 60) (v := 1) d_PotSearch_isEnough_59 rfl (by decide) ?_
      refine g_ireturn (Or.inr ⟨rfl, rfl⟩) d_PotSearch_isEnough_60 rfl ?_
      cases h; exact hQ
    · replace h := itn h c1
      refine g_aload_n (pc1 := 10) d_PotSearch_isEnough_9 rfl 0 rfl ?_
      refine g_getr (pc1 := 13) d_PotSearch_isEnough_10 rfl ⟨_, fo_PotSearch_9⟩ sh_391 (by decide) (rf_391_0 ld) ?_
      refine g_iload (pc1 := 15) d_PotSearch_isEnough_13 rfl 4 rfl ?_
      refine g_callS0 (pc1 := 18) (As := [.ref 392, .int v4]) (rest := []) d_PotSearch_isEnough_15 rfl mo_PotSearch_75 ms_Main_at (by decide) rfl rfl (Nat.le_of_ble_eq_true rfl) ?_
      obtain ⟨r3, hq2, h⟩ := bnd h
      refine f_Main_at hld sh_392 (by decide) (by decide) hq2 ?_
      dsimp only [psh]
      refine g_istore (pc1 := 20) (lv' := [(0, .ref 391), (1, .ref Ld1), (2, .int v2), (3, .int v3), (4, .int v4), (5, .int r3)]) d_PotSearch_isEnough_18 rfl (by decide) [1, 2, 3, 4, 5, 0] rfl ?_
      refine g_iload (pc1 := 22) d_PotSearch_isEnough_20 rfl 5 rfl ?_
      refine g_if_le (pc1 := 25) (tgt := 53) d_PotSearch_isEnough_22 (by decide) rfl (fun c4 => ?_) (fun c4 => ?_)
      · replace h := itp h c4
        refine Wp.loc (lv' := [(0, .ref 391), (1, .ref Ld1), (2, .int v2), (3, .int v3), (4, .int v4)]) [0, 1, 2, 3, 4] rfl ?_
        exact j_PotSearch_isEnough_53 hld hLd1 hQ hK3 h
      · replace h := itn h c4
        refine g_aload_n (pc1 := 26) d_PotSearch_isEnough_25 rfl 1 rfl ?_
        refine g_iload (pc1 := 28) d_PotSearch_isEnough_26 rfl 4 rfl ?_
        refine g_aload_n (pc1 := 29) d_PotSearch_isEnough_28 rfl 0 rfl ?_
        refine g_getr (pc1 := 32) d_PotSearch_isEnough_29 rfl ⟨_, fo_PotSearch_18⟩ sh_391 (by decide) (rf_391_2 ld) ?_
        refine g_iload (pc1 := 34) d_PotSearch_isEnough_32 rfl 4 rfl ?_
        refine g_callS0 (pc1 := 37) (As := [.ref 394, .int v4]) (rest := [.int v4, .ref Ld1]) d_PotSearch_isEnough_34 rfl mo_PotSearch_75 ms_Main_at (by decide) rfl rfl (Nat.le_of_ble_eq_true rfl) ?_
        obtain ⟨r7, hq6, h⟩ := bnd h
        refine f_Main_at hld sh_394 (by decide) (by decide) hq6 ?_
        dsimp only [psh]
        refine g_iload_n (pc1 := 38) d_PotSearch_isEnough_37 rfl 2 rfl ?_
        refine g_aload_n (pc1 := 39) d_PotSearch_isEnough_38 rfl 0 rfl ?_
        refine g_geti (pc1 := 42) d_PotSearch_isEnough_39 rfl ⟨_, fo_PotSearch_56⟩ sh_391 (by decide) ?_
        refine g_iload_n (pc1 := 43) d_PotSearch_isEnough_42 rfl 3 rfl ?_
        refine g_callV0 (pc1 := 46) (As := [.int v4, .int r7, .int v2, .int (M 391 3), .int v3]) (rest := []) d_PotSearch_isEnough_43 rfl mo_PotSearch_114 mi_Land_potForce mv_Land_potForce rfl (shLa_0 hLd1) (ltLa_0 hLd1) (by decide) rfl rfl (Nat.le_of_ble_eq_true rfl) ?_
        obtain ⟨r9, M10, hq8, h⟩ := bnd2 h
        refine f_Land_potForce hld hLd1 hq8 ?_
        dsimp only [psh]
        refine g_iload (pc1 := 48) d_PotSearch_isEnough_46 rfl 5 rfl ?_
        refine g_icmp_ge (pc1 := 51) (tgt := 53) d_PotSearch_isEnough_48 (by decide) rfl (fun c11 => ?_) (fun c11 => ?_)
        · replace h := itp h c11
          refine Wp.loc (lv' := [(0, .ref 391), (1, .ref Ld1), (2, .int v2), (3, .int v3), (4, .int v4)]) [0, 1, 2, 3, 4] rfl ?_
          exact j_PotSearch_isEnough_53 hld hLd1 hQ hK3 h
        · replace h := itn h c11
          refine g_iconst (pc1 := 52) (v := 0) d_PotSearch_isEnough_51 rfl (by decide) ?_
          refine g_ireturn (Or.inr ⟨rfl, rfl⟩) d_PotSearch_isEnough_52 rfl ?_
          cases h; exact hQ
def F_PotSearch_isEnough (Ld1 : Nat) (p2 : Int32) (p3 : Int32) (M : gM) : Option (Int32 × gM) :=
  H_PotSearch_isEnough_3 Ld1 p2 p3 FU 0 M
set_option maxHeartbeats 4000000 in
set_option maxRecDepth 20000 in
theorem f_PotSearch_isEnough {l : Launch} {ld : Nat} {M : gM} {L : gL} {Q : Option Value → gM → gL → gR → Prop} (hld : isLa ld) {Ld1 : Nat} {p2 : Int32} {p3 : Int32} (hLd1 : isLa Ld1) {q : Int32 × gM} (h : F_PotSearch_isEnough Ld1 p2 p3 M = some q) (hQ : Q (some (.int q.1)) q.2 L (rf ld)) : Tm l y_PotSearch_isEnough (0, 0, 447) 447 [.ref 391, .ref Ld1, .int p2, .int p3] M L (rf ld) Q := by
  refine Tm.of (by decide) (Nat.le_of_ble_eq_true rfl) ?_
  show Wp l y_PotSearch_isEnough (0, 0, 447) 447 0 0 0 [(0, .ref 391), (1, .ref Ld1), (2, .int p2), (3, .int p3)] [] M L (rf ld) Q
  unfold F_PotSearch_isEnough at h
  refine g_iconst (pc1 := 1) (v := 0) d_PotSearch_isEnough_0 rfl (by decide) ?_
  refine g_istore (pc1 := 3) (lv' := [(0, .ref 391), (1, .ref Ld1), (2, .int p2), (3, .int p3), (4, .int 0)]) d_PotSearch_isEnough_1 rfl (by decide) [1, 2, 3, 4, 0] rfl ?_
  exact h_PotSearch_isEnough_3 hld hLd1 hQ  _ 0 M h

def J_Reader_takeIngredient_78 (Ld1 : Nat) (M : gM) (L : gL) : Option (gM) :=
  bI (F_Reader_need 2 M) (fun M5 => some M5)
set_option maxHeartbeats 4000000 in
set_option maxRecDepth 20000 in
theorem j_Reader_takeIngredient_78 {l : Launch} {ld : Nat} {Q : Option Value → gM → gL → gR → Prop} (hld : isLa ld) {Ld1 : Nat} (hLd1 : isLa Ld1) {q : gM} {M : gM} {L : gL} (hQ : Q none q L (rf ld))    (h : J_Reader_takeIngredient_78 Ld1 M L = some q) : Wp l y_Reader_takeIngredient (0, 0, 447) 447 0 0 78 [(0, .ref 3)] [] M L (rf ld) Q := by
  unfold J_Reader_takeIngredient_78 at h
  refine g_aload_n (pc1 := 79) d_Reader_takeIngredient_78 rfl 0 rfl ?_
  refine g_iconst (pc1 := 80) (v := 2) d_Reader_takeIngredient_79 rfl (by decide) ?_
  refine g_callV0 (pc1 := 83) (As := [.int 2]) (rest := []) d_Reader_takeIngredient_80 rfl mo_Reader_118 mi_Reader_need mv_Reader_need rfl sh_3 (by decide) (by decide) rfl rfl (Nat.le_of_ble_eq_true rfl) ?_
  obtain ⟨M5, hq4, h⟩ := bnd h
  refine f_Reader_need hld  hq4 ?_
  dsimp only [psh]
  refine g_return rfl d_Reader_takeIngredient_83 rfl ?_
  cases h; exact hQ
def J_Reader_takeIngredient_40 (Ld1 : Nat) (v2 : Int32) (s0 : Int32) (M : gM) (L : gL) : Option (gM) :=
  (if 0 ≤ s0 then bI (F_Land_inDish Ld1 v2 s0 M) (fun r15 => bI (F_Main_put (Ld1 + 5) 30 ((v2 * 6) + s0) (r15 + 1) M) (fun M17 => J_Reader_takeIngredient_78 Ld1 M17 L)) else bI (F_Reader_stopLate 4 M) (fun M19 => J_Reader_takeIngredient_78 Ld1 M19 L))
set_option maxHeartbeats 4000000 in
set_option maxRecDepth 20000 in
theorem j_Reader_takeIngredient_40 {l : Launch} {ld : Nat} {Q : Option Value → gM → gL → gR → Prop} (hld : isLa ld) {Ld1 : Nat} (hLd1 : isLa Ld1) {q : gM} {M : gM} {L : gL} (hQ : Q none q L (rf ld))  {v2 : Int32} {s0 : Int32}  (h : J_Reader_takeIngredient_40 Ld1 v2 s0 M L = some q) : Wp l y_Reader_takeIngredient (0, 0, 447) 447 0 0 40 [(0, .ref 3), (1, .ref Ld1), (2, .int v2)] [.int s0] M L (rf ld) Q := by
  unfold J_Reader_takeIngredient_40 at h
  refine g_istore (pc1 := 42) (lv' := [(0, .ref 3), (1, .ref Ld1), (2, .int v2), (4, .int s0)]) d_Reader_takeIngredient_40 rfl (by decide) [1, 2, 3, 0] rfl ?_
  refine g_iload (pc1 := 44) d_Reader_takeIngredient_42 rfl 3 rfl ?_
  refine g_if_ge (pc1 := 47) (tgt := 55) d_Reader_takeIngredient_44 (by decide) rfl (fun c13 => ?_) (fun c13 => ?_)
  · replace h := itp h c13
    refine g_aload_n (pc1 := 56) d_Reader_takeIngredient_55 rfl 1 rfl ?_
    refine g_getr (pc1 := 59) d_Reader_takeIngredient_56 rfl ⟨_, fo_Reader_158⟩ (shLa_0 hLd1) (ltLa_0 hLd1) (rfLa_9 ld hLd1) ?_
    refine g_iload_n (pc1 := 60) d_Reader_takeIngredient_59 rfl 2 rfl ?_
    refine g_bipush (pc1 := 62) (v := 6) d_Reader_takeIngredient_60 rfl (by decide) ?_
    refine g_imul (pc1 := 63) d_Reader_takeIngredient_62 rfl ?_
    refine g_iload (pc1 := 65) d_Reader_takeIngredient_63 rfl 3 rfl ?_
    refine g_iadd (pc1 := 66) d_Reader_takeIngredient_65 rfl ?_
    refine g_aload_n (pc1 := 67) d_Reader_takeIngredient_66 rfl 1 rfl ?_
    refine g_iload_n (pc1 := 68) d_Reader_takeIngredient_67 rfl 2 rfl ?_
    refine g_iload (pc1 := 70) d_Reader_takeIngredient_68 rfl 3 rfl ?_
    refine g_callV0 (pc1 := 73) (As := [.int v2, .int s0]) (rest := [.int ((v2 * 6) + s0), .ref (Ld1 + 5)]) d_Reader_takeIngredient_70 rfl mo_Reader_161 mi_Land_inDish mv_Land_inDish rfl (shLa_0 hLd1) (ltLa_0 hLd1) (by decide) rfl rfl (Nat.le_of_ble_eq_true rfl) ?_
    obtain ⟨r15, hq14, h⟩ := bnd h
    refine f_Land_inDish hld hLd1 hq14 ?_
    dsimp only [psh]
    refine g_iconst (pc1 := 74) (v := 1) d_Reader_takeIngredient_73 rfl (by decide) ?_
    refine g_iadd (pc1 := 75) d_Reader_takeIngredient_74 rfl ?_
    refine g_callS0 (pc1 := 78) (As := [.ref (Ld1 + 5), .int ((v2 * 6) + s0), .int (r15 + 1)]) (rest := []) d_Reader_takeIngredient_75 rfl mo_Reader_138 ms_Main_put (by decide) rfl rfl (Nat.le_of_ble_eq_true rfl) ?_
    obtain ⟨M17, hq16, h⟩ := bnd h
    refine f_Main_put hld (shLa_5 hLd1) (ltLa_5 hLd1) (by decide) hq16 ?_
    dsimp only [psh]
    refine Wp.loc (lv' := [(0, .ref 3)]) [0] rfl ?_
    exact j_Reader_takeIngredient_78 hld hLd1 hQ  h
  · replace h := itn h c13
    refine g_aload_n (pc1 := 48) d_Reader_takeIngredient_47 rfl 0 rfl ?_
    refine g_iconst (pc1 := 49) (v := 4) d_Reader_takeIngredient_48 rfl (by decide) ?_
    refine g_callV0 (pc1 := 52) (As := [.int 4]) (rest := []) d_Reader_takeIngredient_49 rfl mo_Reader_115 mi_Reader_stopLate mv_Reader_stopLate rfl sh_3 (by decide) (by decide) rfl rfl (Nat.le_of_ble_eq_true rfl) ?_
    obtain ⟨M19, hq18, h⟩ := bnd h
    refine f_Reader_stopLate hld  hq18 ?_
    dsimp only [psh]
    refine g_goto (tgt := 78) d_Reader_takeIngredient_52 (by decide) ?_
    refine Wp.loc (lv' := [(0, .ref 3)]) [0] rfl ?_
    exact j_Reader_takeIngredient_78 hld hLd1 hQ  h
def F_Reader_takeIngredient (Ld1 : Nat) (p2 : Int32) (M : gM) (L : gL) : Option (gM) :=
  bI (F_Reader_is 2 M) (fun r2 => (if r2 = 0 then J_Reader_takeIngredient_78 Ld1 M L else bI (F_Tokens_valueAt (M 3 1) L) (fun r7 => bI (F_Reader_indexOf r7 M L) (fun r9 => (if 0 ≤ r9 then bI (F_Main_at 10 21 r9 M) (fun r12 => J_Reader_takeIngredient_40 Ld1 p2 r12 M L) else J_Reader_takeIngredient_40 Ld1 p2 (-1) M L)))))
set_option maxHeartbeats 4000000 in
set_option maxRecDepth 20000 in
theorem f_Reader_takeIngredient {l : Launch} {ld : Nat} {M : gM} {L : gL} {Q : Option Value → gM → gL → gR → Prop} (hld : isLa ld) {Ld1 : Nat} {p2 : Int32} (hLd1 : isLa Ld1) {q : gM} (h : F_Reader_takeIngredient Ld1 p2 M L = some q) (hQ : Q none q L (rf ld)) : Tm l y_Reader_takeIngredient (0, 0, 447) 447 [.ref 3, .ref Ld1, .int p2] M L (rf ld) Q := by
  refine Tm.of (by decide) (Nat.le_of_ble_eq_true rfl) ?_
  show Wp l y_Reader_takeIngredient (0, 0, 447) 447 0 0 0 [(0, .ref 3), (1, .ref Ld1), (2, .int p2)] [] M L (rf ld) Q
  unfold F_Reader_takeIngredient at h
  refine g_aload_n (pc1 := 1) d_Reader_takeIngredient_0 rfl 0 rfl ?_
  refine g_iconst (pc1 := 2) (v := 2) d_Reader_takeIngredient_1 rfl (by decide) ?_
  refine g_callV0 (pc1 := 5) (As := [.int 2]) (rest := []) d_Reader_takeIngredient_2 rfl mo_Reader_51 mi_Reader_is mv_Reader_is rfl sh_3 (by decide) (by decide) rfl rfl (Nat.le_of_ble_eq_true rfl) ?_
  obtain ⟨r2, hq1, h⟩ := bnd h
  refine f_Reader_is hld  hq1 ?_
  dsimp only [psh]
  refine g_if_eq (pc1 := 8) (tgt := 78) d_Reader_takeIngredient_5 (by decide) rfl (fun c3 => ?_) (fun c3 => ?_)
  · replace h := itp h c3
    refine Wp.loc (lv' := [(0, .ref 3)]) [0] rfl ?_
    exact j_Reader_takeIngredient_78 hld hLd1 hQ  h
  · replace h := itn h c3
    refine g_aload_n (pc1 := 9) d_Reader_takeIngredient_8 rfl 0 rfl ?_
    refine g_aload_n (pc1 := 10) d_Reader_takeIngredient_9 rfl 0 rfl ?_
    refine g_getr (pc1 := 13) d_Reader_takeIngredient_10 rfl ⟨_, fo_Reader_12⟩ sh_3 (by decide) (rf_3_0 ld) ?_
    refine g_aload_n (pc1 := 14) d_Reader_takeIngredient_13 rfl 0 rfl ?_
    refine g_geti (pc1 := 17) d_Reader_takeIngredient_14 rfl ⟨_, fo_Reader_38⟩ sh_3 (by decide) ?_
    refine g_callV0 (pc1 := 20) (As := [.int (M 3 1)]) (rest := [.ref 3]) d_Reader_takeIngredient_17 rfl mo_Reader_111 mi_Tokens_valueAt mv_Tokens_valueAt rfl sh_4 (by decide) (by decide) rfl rfl (Nat.le_of_ble_eq_true rfl) ?_
    obtain ⟨r7, hq6, h⟩ := bnd h
    refine f_Tokens_valueAt hld  hq6 ?_
    dsimp only [psh]
    refine g_callV0 (pc1 := 23) (As := [.long r7]) (rest := []) d_Reader_takeIngredient_20 rfl mo_Reader_121 mi_Reader_indexOf mv_Reader_indexOf rfl sh_3 (by decide) (by decide) rfl rfl (Nat.le_of_ble_eq_true rfl) ?_
    obtain ⟨r9, hq8, h⟩ := bnd h
    refine f_Reader_indexOf hld  hq8 ?_
    dsimp only [psh]
    refine g_istore_n (pc1 := 24) (lv' := [(0, .ref 3), (1, .ref Ld1), (2, .int p2), (3, .int r9)]) d_Reader_takeIngredient_23 rfl rfl (by decide) [1, 2, 3, 0] rfl ?_
    refine g_iload_n (pc1 := 25) d_Reader_takeIngredient_24 rfl 3 rfl ?_
    refine g_if_ge (pc1 := 28) (tgt := 32) d_Reader_takeIngredient_25 (by decide) rfl (fun c10 => ?_) (fun c10 => ?_)
    · replace h := itp h c10
      refine g_aload_n (pc1 := 33) d_Reader_takeIngredient_32 rfl 0 rfl ?_
      refine g_getr (pc1 := 36) d_Reader_takeIngredient_33 rfl ⟨_, fo_Reader_22⟩ sh_3 (by decide) (rf_3_7 ld) ?_
      refine g_iload_n (pc1 := 37) d_Reader_takeIngredient_36 rfl 3 rfl ?_
      refine g_callS0 (pc1 := 40) (As := [.ref 10, .int r9]) (rest := []) d_Reader_takeIngredient_37 rfl mo_Reader_58 ms_Main_at (by decide) rfl rfl (Nat.le_of_ble_eq_true rfl) ?_
      obtain ⟨r12, hq11, h⟩ := bnd h
      refine f_Main_at hld sh_10 (by decide) (by decide) hq11 ?_
      dsimp only [psh]
      refine Wp.loc (lv' := [(0, .ref 3), (1, .ref Ld1), (2, .int p2)]) [0, 1, 2] rfl ?_
      exact j_Reader_takeIngredient_40 hld hLd1 hQ  h
    · replace h := itn h c10
      refine g_iconst (pc1 := 29) (v := (-1)) d_Reader_takeIngredient_28 rfl (by decide) ?_
      refine g_goto (tgt := 40) d_Reader_takeIngredient_29 (by decide) ?_
      refine Wp.loc (lv' := [(0, .ref 3), (1, .ref Ld1), (2, .int p2)]) [0, 1, 2] rfl ?_
      exact j_Reader_takeIngredient_40 hld hLd1 hQ  h

def J_Reader_takeInt_31 (v2 : Int32) (M : gM) (L : gL) : Option (Int32 × gM) :=
  bI (F_Reader_need 3 M) (fun M8 => some (v2, M8))
set_option maxHeartbeats 4000000 in
set_option maxRecDepth 20000 in
theorem j_Reader_takeInt_31 {l : Launch} {ld : Nat} {Q : Option Value → gM → gL → gR → Prop} (hld : isLa ld)   {q : Int32 × gM} {M : gM} {L : gL} (hQ : Q (some (.int q.1)) q.2 L (rf ld))  {v2 : Int32}  (h : J_Reader_takeInt_31 v2 M L = some q) : Wp l y_Reader_takeInt (0, 0, 447) 447 0 0 31 [(0, .ref 3), (2, .int v2)] [] M L (rf ld) Q := by
  unfold J_Reader_takeInt_31 at h
  refine g_aload_n (pc1 := 32) d_Reader_takeInt_31 rfl 0 rfl ?_
  refine g_iconst (pc1 := 33) (v := 3) d_Reader_takeInt_32 rfl (by decide) ?_
  refine g_callV0 (pc1 := 36) (As := [.int 3]) (rest := []) d_Reader_takeInt_33 rfl mo_Reader_118 mi_Reader_need mv_Reader_need rfl sh_3 (by decide) (by decide) rfl rfl (Nat.le_of_ble_eq_true rfl) ?_
  obtain ⟨M8, hq7, h⟩ := bnd h
  refine f_Reader_need hld  hq7 ?_
  dsimp only [psh]
  refine g_iload_n (pc1 := 37) d_Reader_takeInt_36 rfl 1 rfl ?_
  refine g_ireturn (Or.inl rfl) d_Reader_takeInt_37 rfl ?_
  cases h; exact hQ
def F_Reader_takeInt (p1 : Int32) (M : gM) (L : gL) : Option (Int32 × gM) :=
  bI (F_Tokens_valueAt (M 3 1) L) (fun r2 => nmI ((r2 : Int64).toInt32) (fun x3 => bI (F_Reader_is 3 M) (fun r5 => (if r5 = 0 then J_Reader_takeInt_31 x3 M L else (if x3 ≤ p1 then J_Reader_takeInt_31 x3 M L else bI (F_Reader_stopLate 5 M) (fun M11 => J_Reader_takeInt_31 x3 M11 L))))))
set_option maxHeartbeats 4000000 in
set_option maxRecDepth 20000 in
theorem f_Reader_takeInt {l : Launch} {ld : Nat} {M : gM} {L : gL} {Q : Option Value → gM → gL → gR → Prop} (hld : isLa ld) {p1 : Int32}  {q : Int32 × gM} (h : F_Reader_takeInt p1 M L = some q) (hQ : Q (some (.int q.1)) q.2 L (rf ld)) : Tm l y_Reader_takeInt (0, 0, 447) 447 [.ref 3, .int p1] M L (rf ld) Q := by
  refine Tm.of (by decide) (Nat.le_of_ble_eq_true rfl) ?_
  show Wp l y_Reader_takeInt (0, 0, 447) 447 0 0 0 [(0, .ref 3), (1, .int p1)] [] M L (rf ld) Q
  unfold F_Reader_takeInt at h
  refine g_aload_n (pc1 := 1) d_Reader_takeInt_0 rfl 0 rfl ?_
  refine g_getr (pc1 := 4) d_Reader_takeInt_1 rfl ⟨_, fo_Reader_12⟩ sh_3 (by decide) (rf_3_0 ld) ?_
  refine g_aload_n (pc1 := 5) d_Reader_takeInt_4 rfl 0 rfl ?_
  refine g_geti (pc1 := 8) d_Reader_takeInt_5 rfl ⟨_, fo_Reader_38⟩ sh_3 (by decide) ?_
  refine g_callV0 (pc1 := 11) (As := [.int (M 3 1)]) (rest := []) d_Reader_takeInt_8 rfl mo_Reader_111 mi_Tokens_valueAt mv_Tokens_valueAt rfl sh_4 (by decide) (by decide) rfl rfl (Nat.le_of_ble_eq_true rfl) ?_
  obtain ⟨r2, hq1, h⟩ := bnd h
  refine f_Tokens_valueAt hld  hq1 ?_
  dsimp only [psh]
  refine g_l2i (pc1 := 12) d_Reader_takeInt_11 rfl ?_
  refine Wp.lI h (fun x3 h => ?_)
  refine g_istore_n (pc1 := 13) (lv' := [(0, .ref 3), (1, .int p1), (2, .int x3)]) d_Reader_takeInt_12 rfl rfl (by decide) [1, 2, 0] rfl ?_
  refine g_aload_n (pc1 := 14) d_Reader_takeInt_13 rfl 0 rfl ?_
  refine g_iconst (pc1 := 15) (v := 3) d_Reader_takeInt_14 rfl (by decide) ?_
  refine g_callV0 (pc1 := 18) (As := [.int 3]) (rest := []) d_Reader_takeInt_15 rfl mo_Reader_51 mi_Reader_is mv_Reader_is rfl sh_3 (by decide) (by decide) rfl rfl (Nat.le_of_ble_eq_true rfl) ?_
  obtain ⟨r5, hq4, h⟩ := bnd h
  refine f_Reader_is hld  hq4 ?_
  dsimp only [psh]
  refine g_if_eq (pc1 := 21) (tgt := 31) d_Reader_takeInt_18 (by decide) rfl (fun c6 => ?_) (fun c6 => ?_)
  · replace h := itp h c6
    refine Wp.loc (lv' := [(0, .ref 3), (2, .int x3)]) [0, 2] rfl ?_
    exact j_Reader_takeInt_31 hld  hQ  h
  · replace h := itn h c6
    refine g_iload_n (pc1 := 22) d_Reader_takeInt_21 rfl 2 rfl ?_
    refine g_iload_n (pc1 := 23) d_Reader_takeInt_22 rfl 1 rfl ?_
    refine g_icmp_le (pc1 := 26) (tgt := 31) d_Reader_takeInt_23 (by decide) rfl (fun c9 => ?_) (fun c9 => ?_)
    · replace h := itp h c9
      refine Wp.loc (lv' := [(0, .ref 3), (2, .int x3)]) [0, 2] rfl ?_
      exact j_Reader_takeInt_31 hld  hQ  h
    · replace h := itn h c9
      refine g_aload_n (pc1 := 27) d_Reader_takeInt_26 rfl 0 rfl ?_
      refine g_iconst (pc1 := 28) (v := 5) d_Reader_takeInt_27 rfl (by decide) ?_
      refine g_callV0 (pc1 := 31) (As := [.int 5]) (rest := []) d_Reader_takeInt_28 rfl mo_Reader_115 mi_Reader_stopLate mv_Reader_stopLate rfl sh_3 (by decide) (by decide) rfl rfl (Nat.le_of_ble_eq_true rfl) ?_
      obtain ⟨M11, hq10, h⟩ := bnd h
      refine f_Reader_stopLate hld  hq10 ?_
      dsimp only [psh]
      refine Wp.loc (lv' := [(0, .ref 3), (2, .int x3)]) [0, 2] rfl ?_
      exact j_Reader_takeInt_31 hld  hQ  h

def J_Reader_takeNewName_97 (M : gM) (L : gL) : Option (gM × gL) :=
  bI (F_Reader_need 2 M) (fun M5 => some (M5, L))
set_option maxHeartbeats 4000000 in
set_option maxRecDepth 20000 in
theorem j_Reader_takeNewName_97 {l : Launch} {ld : Nat} {Q : Option Value → gM → gL → gR → Prop} (hld : isLa ld)   {q : gM × gL} {M : gM} {L : gL} (hQ : Q none q.1 q.2 (rf ld))    (h : J_Reader_takeNewName_97 M L = some q) : Wp l y_Reader_takeNewName (0, 0, 447) 447 0 0 97 [(0, .ref 3)] [] M L (rf ld) Q := by
  unfold J_Reader_takeNewName_97 at h
  refine g_aload_n (pc1 := 98) d_Reader_takeNewName_97 rfl 0 rfl ?_
  refine g_iconst (pc1 := 99) (v := 2) d_Reader_takeNewName_98 rfl (by decide) ?_
  refine g_callV0 (pc1 := 102) (As := [.int 2]) (rest := []) d_Reader_takeNewName_99 rfl mo_Reader_118 mi_Reader_need mv_Reader_need rfl sh_3 (by decide) (by decide) rfl rfl (Nat.le_of_ble_eq_true rfl) ?_
  obtain ⟨M5, hq4, h⟩ := bnd h
  refine f_Reader_need hld  hq4 ?_
  dsimp only [psh]
  refine g_return rfl d_Reader_takeNewName_102 rfl ?_
  cases h; exact hQ
def F_Reader_takeNewName (p1 : Int32) (M : gM) (L : gL) : Option (gM × gL) :=
  bI (F_Reader_is 2 M) (fun r2 => (if r2 = 0 then J_Reader_takeNewName_97 M L else bI (F_Tokens_valueAt (M 3 1) L) (fun r7 => bI (F_Reader_indexOf r7 M L) (fun r9 => (if r9 < 0 then (if (M 3 8) < 0 then J_Reader_takeNewName_97 M L else (if 21 ≤ (M 3 8) then J_Reader_takeNewName_97 M L else (if 21 ≤ (M 3 8) then J_Reader_takeNewName_97 M L else (if ((M 3 8) : Int32) < 0 ∨ 21 ≤ ((M 3 8) : Int32).toNatClampNeg then none else nmL (uL L 9 ((M 3 8) : Int32).toNatClampNeg r7) (fun L15 => (if ((M 3 8) : Int32) < 0 ∨ 21 ≤ ((M 3 8) : Int32).toNatClampNeg then none else nmM (uM M 10 ((M 3 8) : Int32).toNatClampNeg p1) (fun M17 => nmM (uM M17 3 8 ((M17 3 8) + 1)) (fun M18 => J_Reader_takeNewName_97 M18 L15)))))))) else bI (F_Reader_stopLate 3 M) (fun M20 => J_Reader_takeNewName_97 M20 L))))))
set_option maxHeartbeats 4000000 in
set_option maxRecDepth 20000 in
theorem f_Reader_takeNewName {l : Launch} {ld : Nat} {M : gM} {L : gL} {Q : Option Value → gM → gL → gR → Prop} (hld : isLa ld) {p1 : Int32}  {q : gM × gL} (h : F_Reader_takeNewName p1 M L = some q) (hQ : Q none q.1 q.2 (rf ld)) : Tm l y_Reader_takeNewName (0, 0, 447) 447 [.ref 3, .int p1] M L (rf ld) Q := by
  refine Tm.of (by decide) (Nat.le_of_ble_eq_true rfl) ?_
  show Wp l y_Reader_takeNewName (0, 0, 447) 447 0 0 0 [(0, .ref 3), (1, .int p1)] [] M L (rf ld) Q
  unfold F_Reader_takeNewName at h
  refine g_aload_n (pc1 := 1) d_Reader_takeNewName_0 rfl 0 rfl ?_
  refine g_iconst (pc1 := 2) (v := 2) d_Reader_takeNewName_1 rfl (by decide) ?_
  refine g_callV0 (pc1 := 5) (As := [.int 2]) (rest := []) d_Reader_takeNewName_2 rfl mo_Reader_51 mi_Reader_is mv_Reader_is rfl sh_3 (by decide) (by decide) rfl rfl (Nat.le_of_ble_eq_true rfl) ?_
  obtain ⟨r2, hq1, h⟩ := bnd h
  refine f_Reader_is hld  hq1 ?_
  dsimp only [psh]
  refine g_if_eq (pc1 := 8) (tgt := 97) d_Reader_takeNewName_5 (by decide) rfl (fun c3 => ?_) (fun c3 => ?_)
  · replace h := itp h c3
    refine Wp.loc (lv' := [(0, .ref 3)]) [0] rfl ?_
    exact j_Reader_takeNewName_97 hld  hQ  h
  · replace h := itn h c3
    refine g_aload_n (pc1 := 9) d_Reader_takeNewName_8 rfl 0 rfl ?_
    refine g_getr (pc1 := 12) d_Reader_takeNewName_9 rfl ⟨_, fo_Reader_12⟩ sh_3 (by decide) (rf_3_0 ld) ?_
    refine g_aload_n (pc1 := 13) d_Reader_takeNewName_12 rfl 0 rfl ?_
    refine g_geti (pc1 := 16) d_Reader_takeNewName_13 rfl ⟨_, fo_Reader_38⟩ sh_3 (by decide) ?_
    refine g_callV0 (pc1 := 19) (As := [.int (M 3 1)]) (rest := []) d_Reader_takeNewName_16 rfl mo_Reader_111 mi_Tokens_valueAt mv_Tokens_valueAt rfl sh_4 (by decide) (by decide) rfl rfl (Nat.le_of_ble_eq_true rfl) ?_
    obtain ⟨r7, hq6, h⟩ := bnd h
    refine f_Tokens_valueAt hld  hq6 ?_
    dsimp only [psh]
    refine g_lstore_n (pc1 := 20) (lv' := [(0, .ref 3), (1, .int p1), (2, .long r7)]) d_Reader_takeNewName_19 rfl rfl (by decide) [1, 2, 0] rfl ?_
    refine g_aload_n (pc1 := 21) d_Reader_takeNewName_20 rfl 0 rfl ?_
    refine g_lload_n (pc1 := 22) d_Reader_takeNewName_21 rfl 2 rfl ?_
    refine g_callV0 (pc1 := 25) (As := [.long r7]) (rest := []) d_Reader_takeNewName_22 rfl mo_Reader_121 mi_Reader_indexOf mv_Reader_indexOf rfl sh_3 (by decide) (by decide) rfl rfl (Nat.le_of_ble_eq_true rfl) ?_
    obtain ⟨r9, hq8, h⟩ := bnd h
    refine f_Reader_indexOf hld  hq8 ?_
    dsimp only [psh]
    refine g_if_lt (pc1 := 28) (tgt := 36) d_Reader_takeNewName_25 (by decide) rfl (fun c10 => ?_) (fun c10 => ?_)
    · replace h := itp h c10
      refine g_aload_n (pc1 := 37) d_Reader_takeNewName_36 rfl 0 rfl ?_
      refine g_geti (pc1 := 40) d_Reader_takeNewName_37 rfl ⟨_, fo_Reader_48⟩ sh_3 (by decide) ?_
      refine g_if_lt (pc1 := 43) (tgt := 97) d_Reader_takeNewName_40 (by decide) rfl (fun c11 => ?_) (fun c11 => ?_)
      · replace h := itp h c11
        refine Wp.loc (lv' := [(0, .ref 3)]) [0] rfl ?_
        exact j_Reader_takeNewName_97 hld  hQ  h
      · replace h := itn h c11
        refine g_aload_n (pc1 := 44) d_Reader_takeNewName_43 rfl 0 rfl ?_
        refine g_geti (pc1 := 47) d_Reader_takeNewName_44 rfl ⟨_, fo_Reader_48⟩ sh_3 (by decide) ?_
        refine g_aload_n (pc1 := 48) d_Reader_takeNewName_47 rfl 0 rfl ?_
        refine g_getr (pc1 := 51) d_Reader_takeNewName_48 rfl ⟨_, fo_Reader_18⟩ sh_3 (by decide) (rf_3_6 ld) ?_
        refine g_alen (pc1 := 52) (v := 21) d_Reader_takeNewName_51 rfl sh_9 (by decide) (by decide) (by decide) (by decide) ?_
        refine g_icmp_ge (pc1 := 55) (tgt := 97) d_Reader_takeNewName_52 (by decide) rfl (fun c12 => ?_) (fun c12 => ?_)
        · replace h := itp h c12
          refine Wp.loc (lv' := [(0, .ref 3)]) [0] rfl ?_
          exact j_Reader_takeNewName_97 hld  hQ  h
        · replace h := itn h c12
          refine g_aload_n (pc1 := 56) d_Reader_takeNewName_55 rfl 0 rfl ?_
          refine g_geti (pc1 := 59) d_Reader_takeNewName_56 rfl ⟨_, fo_Reader_48⟩ sh_3 (by decide) ?_
          refine g_aload_n (pc1 := 60) d_Reader_takeNewName_59 rfl 0 rfl ?_
          refine g_getr (pc1 := 63) d_Reader_takeNewName_60 rfl ⟨_, fo_Reader_22⟩ sh_3 (by decide) (rf_3_7 ld) ?_
          refine g_alen (pc1 := 64) (v := 21) d_Reader_takeNewName_63 rfl sh_10 (by decide) (by decide) (by decide) (by decide) ?_
          refine g_icmp_ge (pc1 := 67) (tgt := 97) d_Reader_takeNewName_64 (by decide) rfl (fun c13 => ?_) (fun c13 => ?_)
          · replace h := itp h c13
            refine Wp.loc (lv' := [(0, .ref 3)]) [0] rfl ?_
            exact j_Reader_takeNewName_97 hld  hQ  h
          · replace h := itn h c13
            refine g_aload_n (pc1 := 68) d_Reader_takeNewName_67 rfl 0 rfl ?_
            refine g_getr (pc1 := 71) d_Reader_takeNewName_68 rfl ⟨_, fo_Reader_18⟩ sh_3 (by decide) (rf_3_6 ld) ?_
            refine g_aload_n (pc1 := 72) d_Reader_takeNewName_71 rfl 0 rfl ?_
            refine g_geti (pc1 := 75) d_Reader_takeNewName_72 rfl ⟨_, fo_Reader_48⟩ sh_3 (by decide) ?_
            refine g_lload_n (pc1 := 76) d_Reader_takeNewName_75 rfl 2 rfl ?_
            obtain ⟨g14, h⟩ := gdn h
            refine g_last (pc1 := 77) d_Reader_takeNewName_76 rfl sh_9 (by decide) g14 ?_
            refine Wp.lL h (fun L15 h => ?_)
            refine g_aload_n (pc1 := 78) d_Reader_takeNewName_77 rfl 0 rfl ?_
            refine g_getr (pc1 := 81) d_Reader_takeNewName_78 rfl ⟨_, fo_Reader_22⟩ sh_3 (by decide) (rf_3_7 ld) ?_
            refine g_aload_n (pc1 := 82) d_Reader_takeNewName_81 rfl 0 rfl ?_
            refine g_geti (pc1 := 85) d_Reader_takeNewName_82 rfl ⟨_, fo_Reader_48⟩ sh_3 (by decide) ?_
            refine g_iload_n (pc1 := 86) d_Reader_takeNewName_85 rfl 1 rfl ?_
            obtain ⟨g16, h⟩ := gdn h
            refine g_iast (pc1 := 87) d_Reader_takeNewName_86 rfl sh_10 (by decide) g16 ?_
            refine Wp.lM h (fun M17 h => ?_)
            refine g_aload_n (pc1 := 88) d_Reader_takeNewName_87 rfl 0 rfl ?_
            refine g_dup (pc1 := 89) d_Reader_takeNewName_88 rfl rfl ?_
            refine g_geti (pc1 := 92) d_Reader_takeNewName_89 rfl ⟨_, fo_Reader_48⟩ sh_3 (by decide) ?_
            refine g_iconst (pc1 := 93) (v := 1) d_Reader_takeNewName_92 rfl (by decide) ?_
            refine g_iadd (pc1 := 94) d_Reader_takeNewName_93 rfl ?_
            refine g_puti (pc1 := 97) d_Reader_takeNewName_94 rfl fo_Reader_48 (po_2_8 _) sh_3 (by decide) ?_
            refine Wp.lM h (fun M18 h => ?_)
            refine Wp.loc (lv' := [(0, .ref 3)]) [0] rfl ?_
            exact j_Reader_takeNewName_97 hld  hQ  h
    · replace h := itn h c10
      refine g_aload_n (pc1 := 29) d_Reader_takeNewName_28 rfl 0 rfl ?_
      refine g_iconst (pc1 := 30) (v := 3) d_Reader_takeNewName_29 rfl (by decide) ?_
      refine g_callV0 (pc1 := 33) (As := [.int 3]) (rest := []) d_Reader_takeNewName_30 rfl mo_Reader_115 mi_Reader_stopLate mv_Reader_stopLate rfl sh_3 (by decide) (by decide) rfl rfl (Nat.le_of_ble_eq_true rfl) ?_
      obtain ⟨M20, hq19, h⟩ := bnd h
      refine f_Reader_stopLate hld  hq19 ?_
      dsimp only [psh]
      refine g_goto (tgt := 97) d_Reader_takeNewName_33 (by decide) ?_
      refine Wp.loc (lv' := [(0, .ref 3)]) [0] rfl ?_
      exact j_Reader_takeNewName_97 hld  hQ  h

def J_Reader_takeSum_89 (Wl1 : Nat) (M : gM) (L : gL) : Option (gM) :=
  bI (F_Reader_layHeld Wl1 1 M) (fun M5 => some M5)
set_option maxHeartbeats 4000000 in
set_option maxRecDepth 20000 in
theorem j_Reader_takeSum_89 {l : Launch} {ld : Nat} {Q : Option Value → gM → gL → gR → Prop} (hld : isLa ld) {Wl1 : Nat} (hWl1 : isLw Wl1) {q : gM} {M : gM} {L : gL} (hQ : Q none q L (rf ld))    (h : J_Reader_takeSum_89 Wl1 M L = some q) : Wp l y_Reader_takeSum (0, 0, 447) 447 0 0 89 [(0, .ref 3), (1, .ref Wl1)] [] M L (rf ld) Q := by
  unfold J_Reader_takeSum_89 at h
  refine g_aload_n (pc1 := 90) d_Reader_takeSum_89 rfl 0 rfl ?_
  refine g_aload_n (pc1 := 91) d_Reader_takeSum_90 rfl 1 rfl ?_
  refine g_iconst (pc1 := 92) (v := 1) d_Reader_takeSum_91 rfl (by decide) ?_
  refine g_callV0 (pc1 := 95) (As := [.ref Wl1, .int 1]) (rest := []) d_Reader_takeSum_92 rfl mo_Reader_215 mi_Reader_layHeld mv_Reader_layHeld rfl sh_3 (by decide) (by decide) rfl rfl (Nat.le_of_ble_eq_true rfl) ?_
  obtain ⟨M5, hq4, h⟩ := bnd h
  refine f_Reader_layHeld hld hWl1 hq4 ?_
  dsimp only [psh]
  refine g_return rfl d_Reader_takeSum_95 rfl ?_
  cases h; exact hQ
def J_Reader_takeSum_83 (Wl1 : Nat) (K14 : Int32 → Int32 → gM → Option (gM)) (v2 : Int32) (v3 : Int32) (M : gM) (L : gL) : Option (gM) :=
  nmI (v3 + 1) (fun x16 => K14 v2 x16 M)
set_option maxHeartbeats 4000000 in
set_option maxRecDepth 20000 in
theorem j_Reader_takeSum_83 {l : Launch} {ld : Nat} {Q : Option Value → gM → gL → gR → Prop} (hld : isLa ld) {Wl1 : Nat} (hWl1 : isLw Wl1) {q : gM} {M : gM} {L : gL} (hQ : Q none q L (rf ld)) {K14 : Int32 → Int32 → gM → Option (gM)} {v2 : Int32} {v3 : Int32} (hK14 : ∀ (w2 : Int32) (w3 : Int32) (M : gM), K14 w2 w3 M = some q → Wp l y_Reader_takeSum (0, 0, 447) 447 0 0 14 [(0, .ref 3), (1, .ref Wl1), (2, .int w2), (3, .int w3)] [] M L (rf ld) Q) (h : J_Reader_takeSum_83 Wl1 K14 v2 v3 M L = some q) : Wp l y_Reader_takeSum (0, 0, 447) 447 0 0 83 [(0, .ref 3), (1, .ref Wl1), (2, .int v2), (3, .int v3)] [] M L (rf ld) Q := by
  unfold J_Reader_takeSum_83 at h
  obtain ⟨x16, ex16, h⟩ := ltI h
  refine g_iinc (pc1 := 86) (v := x16) (lv' := [(0, .ref 3), (1, .ref Wl1), (2, .int v2), (3, .int x16)]) d_Reader_takeSum_83 rfl 3 rfl (by rw [ex16]; rfl) (by decide) [1, 2, 3, 0] rfl ?_
  refine g_goto (tgt := 14) d_Reader_takeSum_86 (by decide) ?_
  exact hK14 v2 x16 M h
def B_Reader_takeSum_14 (Wl1 : Nat) (L : gL) (K14 : Int32 → Int32 → gM → Option (gM)) : Int32 → Int32 → gM → Option (gM) := fun v2 v3 M =>
  (if 400 < v3 then J_Reader_takeSum_89 Wl1 M L else (if (M 3 2) = 0 then (if v2 = 0 then bI (F_Main_at 6 401 (M 3 1) M) (fun r9 => bI (F_Reader_rank r9) (fun r11 => (if r11 ≤ 0 then (if (M 3 11) ≤ 0 then J_Reader_takeSum_89 Wl1 M L else bI (F_Reader_takeClose Wl1 M) (fun M15 => J_Reader_takeSum_83 Wl1 K14 v2 v3 M15 L)) else bI (F_Reader_takeSign Wl1 M) (fun M18 => J_Reader_takeSum_83 Wl1 K14 1 v3 M18 L)))) else bI2 (F_Reader_takeUnit Wl1 M L) (fun r20 M21 => J_Reader_takeSum_83 Wl1 K14 r20 v3 M21 L)) else J_Reader_takeSum_89 Wl1 M L))
def H_Reader_takeSum_14 (Wl1 : Nat) (L : gL) : Nat → Int32 → Int32 → gM → Option (gM) := lpK (B_Reader_takeSum_14 Wl1 L) (fun _ _ _ => none)
set_option maxHeartbeats 4000000 in
set_option maxRecDepth 20000 in
theorem h_Reader_takeSum_14 {l : Launch} {ld : Nat} {Q : Option Value → gM → gL → gR → Prop} (hld : isLa ld) {Wl1 : Nat} (hWl1 : isLw Wl1) {q : gM} {L : gL} (hQ : Q none q L (rf ld))    : ∀ (f : Nat) (v2 : Int32) (v3 : Int32) (M : gM), H_Reader_takeSum_14 Wl1 L f v2 v3 M = some q → Wp l y_Reader_takeSum (0, 0, 447) 447 0 0 14 [(0, .ref 3), (1, .ref Wl1), (2, .int v2), (3, .int v3)] [] M L (rf ld) Q := by
  intro f
  induction f with
  | zero => intro v2 v3 M h; cases h
  | succ f hK14 =>
    intro v2 v3 M h
    replace h : B_Reader_takeSum_14 Wl1 L (H_Reader_takeSum_14 Wl1 L f) v2 v3 M = some q := h
    unfold B_Reader_takeSum_14 at h
    refine g_iload_n (pc1 := 15) d_Reader_takeSum_14 rfl 3 rfl ?_
    refine g_sipush (pc1 := 18) (v := 400) d_Reader_takeSum_15 rfl (by decide) ?_
    refine g_icmp_gt (pc1 := 21) (tgt := 89) d_Reader_takeSum_18 (by decide) rfl (fun c3 => ?_) (fun c3 => ?_)
    · replace h := itp h c3
      refine Wp.loc (lv' := [(0, .ref 3), (1, .ref Wl1)]) [0, 1] rfl ?_
      exact j_Reader_takeSum_89 hld hWl1 hQ  h
    · replace h := itn h c3
      refine g_aload_n (pc1 := 22) d_Reader_takeSum_21 rfl 0 rfl ?_
      refine g_geti (pc1 := 25) d_Reader_takeSum_22 rfl ⟨_, fo_Reader_42⟩ sh_3 (by decide) ?_
      refine g_if_ne (pc1 := 28) (tgt := 89) d_Reader_takeSum_25 (by decide) rfl (fun c6 => ?_) (fun c6 => ?_)
      · replace h := itn h c6
        refine Wp.loc (lv' := [(0, .ref 3), (1, .ref Wl1)]) [0, 1] rfl ?_
        exact j_Reader_takeSum_89 hld hWl1 hQ  h
      · replace h := itp h c6
        refine g_iload_n (pc1 := 29) d_Reader_takeSum_28 rfl 2 rfl ?_
        refine g_if_eq (pc1 := 32) (tgt := 41) d_Reader_takeSum_29 (by decide) rfl (fun c7 => ?_) (fun c7 => ?_)
        · replace h := itp h c7
          refine g_aload_n (pc1 := 42) d_Reader_takeSum_41 rfl 0 rfl ?_
          refine g_getr (pc1 := 45) d_Reader_takeSum_42 rfl ⟨_, fo_Reader_12⟩ sh_3 (by decide) (rf_3_0 ld) ?_
          refine g_getr (pc1 := 48) d_Reader_takeSum_45 rfl ⟨_, fo_Reader_55⟩ sh_4 (by decide) (rf_4_1 ld) ?_
          refine g_aload_n (pc1 := 49) d_Reader_takeSum_48 rfl 0 rfl ?_
          refine g_geti (pc1 := 52) d_Reader_takeSum_49 rfl ⟨_, fo_Reader_38⟩ sh_3 (by decide) ?_
          refine g_callS0 (pc1 := 55) (As := [.ref 6, .int (M 3 1)]) (rest := []) d_Reader_takeSum_52 rfl mo_Reader_58 ms_Main_at (by decide) rfl rfl (Nat.le_of_ble_eq_true rfl) ?_
          obtain ⟨r9, hq8, h⟩ := bnd h
          refine f_Main_at hld sh_6 (by decide) (by decide) hq8 ?_
          dsimp only [psh]
          refine g_callS0 (pc1 := 58) (As := [.int r9]) (rest := []) d_Reader_takeSum_55 rfl mo_Reader_206 ms_Reader_rank (by decide) rfl rfl (Nat.le_of_ble_eq_true rfl) ?_
          obtain ⟨r11, hq10, h⟩ := bnd h
          refine f_Reader_rank hld  hq10 ?_
          dsimp only [psh]
          refine g_if_le (pc1 := 61) (tgt := 71) d_Reader_takeSum_58 (by decide) rfl (fun c12 => ?_) (fun c12 => ?_)
          · replace h := itp h c12
            refine g_aload_n (pc1 := 72) d_Reader_takeSum_71 rfl 0 rfl ?_
            refine g_geti (pc1 := 75) d_Reader_takeSum_72 rfl ⟨_, fo_Reader_196⟩ sh_3 (by decide) ?_
            refine g_if_le (pc1 := 78) (tgt := 89) d_Reader_takeSum_75 (by decide) rfl (fun c13 => ?_) (fun c13 => ?_)
            · replace h := itp h c13
              refine Wp.loc (lv' := [(0, .ref 3), (1, .ref Wl1)]) [0, 1] rfl ?_
              exact j_Reader_takeSum_89 hld hWl1 hQ  h
            · replace h := itn h c13
              refine g_aload_n (pc1 := 79) d_Reader_takeSum_78 rfl 0 rfl ?_
              refine g_aload_n (pc1 := 80) d_Reader_takeSum_79 rfl 1 rfl ?_
              refine g_callV0 (pc1 := 83) (As := [.ref Wl1]) (rest := []) d_Reader_takeSum_80 rfl mo_Reader_212 mi_Reader_takeClose mv_Reader_takeClose rfl sh_3 (by decide) (by decide) rfl rfl (Nat.le_of_ble_eq_true rfl) ?_
              obtain ⟨M15, hq14, h⟩ := bnd h
              refine f_Reader_takeClose hld hWl1 hq14 ?_
              dsimp only [psh]
              exact j_Reader_takeSum_83 hld hWl1 hQ hK14 h
          · replace h := itn h c12
            refine g_aload_n (pc1 := 62) d_Reader_takeSum_61 rfl 0 rfl ?_
            refine g_aload_n (pc1 := 63) d_Reader_takeSum_62 rfl 1 rfl ?_
            refine g_callV0 (pc1 := 66) (As := [.ref Wl1]) (rest := []) d_Reader_takeSum_63 rfl mo_Reader_209 mi_Reader_takeSign mv_Reader_takeSign rfl sh_3 (by decide) (by decide) rfl rfl (Nat.le_of_ble_eq_true rfl) ?_
            obtain ⟨M18, hq17, h⟩ := bnd h
            refine f_Reader_takeSign hld hWl1 hq17 ?_
            dsimp only [psh]
            refine g_iconst (pc1 := 67) (v := 1) d_Reader_takeSum_66 rfl (by decide) ?_
            refine g_istore_n (pc1 := 68) (lv' := [(0, .ref 3), (1, .ref Wl1), (2, .int 1), (3, .int v3)]) d_Reader_takeSum_67 rfl rfl (by decide) [1, 2, 0, 3] rfl ?_
            refine g_goto (tgt := 83) d_Reader_takeSum_68 (by decide) ?_
            exact j_Reader_takeSum_83 hld hWl1 hQ hK14 h
        · replace h := itn h c7
          refine g_aload_n (pc1 := 33) d_Reader_takeSum_32 rfl 0 rfl ?_
          refine g_aload_n (pc1 := 34) d_Reader_takeSum_33 rfl 1 rfl ?_
          refine g_callV0 (pc1 := 37) (As := [.ref Wl1]) (rest := []) d_Reader_takeSum_34 rfl mo_Reader_202 mi_Reader_takeUnit mv_Reader_takeUnit rfl sh_3 (by decide) (by decide) rfl rfl (Nat.le_of_ble_eq_true rfl) ?_
          obtain ⟨r20, M21, hq19, h⟩ := bnd2 h
          refine f_Reader_takeUnit hld hWl1 hq19 ?_
          dsimp only [psh]
          refine g_istore_n (pc1 := 38) (lv' := [(0, .ref 3), (1, .ref Wl1), (2, .int r20), (3, .int v3)]) d_Reader_takeSum_37 rfl rfl (by decide) [1, 2, 0, 3] rfl ?_
          refine g_goto (tgt := 83) d_Reader_takeSum_38 (by decide) ?_
          exact j_Reader_takeSum_83 hld hWl1 hQ hK14 h
def F_Reader_takeSum (Wl1 : Nat) (M : gM) (L : gL) : Option (gM) :=
  nmM (uM M 3 11 0) (fun M1 => nmM (uM M1 3 10 0) (fun M2 => H_Reader_takeSum_14 Wl1 L FU 1 0 M2))
set_option maxHeartbeats 4000000 in
set_option maxRecDepth 20000 in
theorem f_Reader_takeSum {l : Launch} {ld : Nat} {M : gM} {L : gL} {Q : Option Value → gM → gL → gR → Prop} (hld : isLa ld) {Wl1 : Nat} (hWl1 : isLw Wl1) {q : gM} (h : F_Reader_takeSum Wl1 M L = some q) (hQ : Q none q L (rf ld)) : Tm l y_Reader_takeSum (0, 0, 447) 447 [.ref 3, .ref Wl1] M L (rf ld) Q := by
  refine Tm.of (by decide) (Nat.le_of_ble_eq_true rfl) ?_
  show Wp l y_Reader_takeSum (0, 0, 447) 447 0 0 0 [(0, .ref 3), (1, .ref Wl1)] [] M L (rf ld) Q
  unfold F_Reader_takeSum at h
  refine g_aload_n (pc1 := 1) d_Reader_takeSum_0 rfl 0 rfl ?_
  refine g_iconst (pc1 := 2) (v := 0) d_Reader_takeSum_1 rfl (by decide) ?_
  refine g_puti (pc1 := 5) d_Reader_takeSum_2 rfl fo_Reader_196 (po_2_11 _) sh_3 (by decide) ?_
  refine Wp.lM h (fun M1 h => ?_)
  refine g_aload_n (pc1 := 6) d_Reader_takeSum_5 rfl 0 rfl ?_
  refine g_iconst (pc1 := 7) (v := 0) d_Reader_takeSum_6 rfl (by decide) ?_
  refine g_puti (pc1 := 10) d_Reader_takeSum_7 rfl fo_Reader_199 (po_2_10 _) sh_3 (by decide) ?_
  refine Wp.lM h (fun M2 h => ?_)
  refine g_iconst (pc1 := 11) (v := 1) d_Reader_takeSum_10 rfl (by decide) ?_
  refine g_istore_n (pc1 := 12) (lv' := [(0, .ref 3), (1, .ref Wl1), (2, .int 1)]) d_Reader_takeSum_11 rfl rfl (by decide) [1, 2, 0] rfl ?_
  refine g_iconst (pc1 := 13) (v := 0) d_Reader_takeSum_12 rfl (by decide) ?_
  refine g_istore_n (pc1 := 14) (lv' := [(0, .ref 3), (1, .ref Wl1), (2, .int 1), (3, .int 0)]) d_Reader_takeSum_13 rfl rfl (by decide) [1, 2, 3, 0] rfl ?_
  exact h_Reader_takeSum_14 hld hWl1 hQ  _ 1 0 M2 h

def F_State_boundOf (X0 : Nat) (Ld1 : Nat) (p2 : Int32) (p3 : Int32) (p4 : Int32) (M : gM) : Option (Int32 × gM) :=
  bI (F_State_hasEaten X0 p2 M) (fun r2 => (if r2 = 0 then some (0, M) else bI (F_Main_at (X0 + 6) 12 ((p2 * 3) + p3) M) (fun r5 => bI (F_State_agoOf X0 p2 M) (fun r7 => bI2 (F_Land_boundBy Ld1 p2 p3 r5 (r7 + p4) ((M X0 0) + p4) M) (fun r9 M10 => some (r9, M10))))))
set_option maxHeartbeats 4000000 in
set_option maxRecDepth 20000 in
theorem f_State_boundOf {l : Launch} {ld : Nat} {M : gM} {L : gL} {Q : Option Value → gM → gL → gR → Prop} (hld : isLa ld) {X0 : Nat} {Ld1 : Nat} {p2 : Int32} {p3 : Int32} {p4 : Int32} (hX0 : isSt X0) (hLd1 : isLa Ld1) {q : Int32 × gM} (h : F_State_boundOf X0 Ld1 p2 p3 p4 M = some q) (hQ : Q (some (.int q.1)) q.2 L (rf ld)) : Tm l y_State_boundOf (0, 0, 447) 447 [.ref X0, .ref Ld1, .int p2, .int p3, .int p4] M L (rf ld) Q := by
  refine Tm.of (by decide) (Nat.le_of_ble_eq_true rfl) ?_
  show Wp l y_State_boundOf (0, 0, 447) 447 0 0 0 [(0, .ref X0), (1, .ref Ld1), (2, .int p2), (3, .int p3), (4, .int p4)] [] M L (rf ld) Q
  unfold F_State_boundOf at h
  refine g_aload_n (pc1 := 1) d_State_boundOf_0 rfl 0 rfl ?_
  refine g_iload_n (pc1 := 2) d_State_boundOf_1 rfl 2 rfl ?_
  refine g_callV0 (pc1 := 5) (As := [.int p2]) (rest := []) d_State_boundOf_2 rfl mo_State_97 mi_State_hasEaten mv_State_hasEaten rfl (shSt_0 hX0) (ltSt_0 hX0) (by decide) rfl rfl (Nat.le_of_ble_eq_true rfl) ?_
  obtain ⟨r2, hq1, h⟩ := bnd h
  refine f_State_hasEaten hld hX0 hq1 ?_
  dsimp only [psh]
  refine g_if_ne (pc1 := 8) (tgt := 10) d_State_boundOf_5 (by decide) rfl (fun c3 => ?_) (fun c3 => ?_)
  · replace h := itn h c3
    refine g_aload_n (pc1 := 11) d_State_boundOf_10 rfl 1 rfl ?_
    refine g_iload_n (pc1 := 12) d_State_boundOf_11 rfl 2 rfl ?_
    refine g_iload_n (pc1 := 13) d_State_boundOf_12 rfl 3 rfl ?_
    refine g_aload_n (pc1 := 14) d_State_boundOf_13 rfl 0 rfl ?_
    refine g_getr (pc1 := 17) d_State_boundOf_14 rfl ⟨_, fo_State_31⟩ (shSt_0 hX0) (ltSt_0 hX0) (rfSt_9 ld hX0) ?_
    refine g_iload_n (pc1 := 18) d_State_boundOf_17 rfl 2 rfl ?_
    refine g_iconst (pc1 := 19) (v := 3) d_State_boundOf_18 rfl (by decide) ?_
    refine g_imul (pc1 := 20) d_State_boundOf_19 rfl ?_
    refine g_iload_n (pc1 := 21) d_State_boundOf_20 rfl 3 rfl ?_
    refine g_iadd (pc1 := 22) d_State_boundOf_21 rfl ?_
    refine g_callS0 (pc1 := 25) (As := [.ref (X0 + 6), .int ((p2 * 3) + p3)]) (rest := [.int p3, .int p2, .ref Ld1]) d_State_boundOf_22 rfl mo_State_53 ms_Main_at (by decide) rfl rfl (Nat.le_of_ble_eq_true rfl) ?_
    obtain ⟨r5, hq4, h⟩ := bnd h
    refine f_Main_at hld (shSt_6 hX0) (ltSt_6 hX0) (by decide) hq4 ?_
    dsimp only [psh]
    refine g_aload_n (pc1 := 26) d_State_boundOf_25 rfl 0 rfl ?_
    refine g_iload_n (pc1 := 27) d_State_boundOf_26 rfl 2 rfl ?_
    refine g_callV0 (pc1 := 30) (As := [.int p2]) (rest := [.int r5, .int p3, .int p2, .ref Ld1]) d_State_boundOf_27 rfl mo_State_101 mi_State_agoOf mv_State_agoOf rfl (shSt_0 hX0) (ltSt_0 hX0) (by decide) rfl rfl (Nat.le_of_ble_eq_true rfl) ?_
    obtain ⟨r7, hq6, h⟩ := bnd h
    refine f_State_agoOf hld hX0 hq6 ?_
    dsimp only [psh]
    refine g_iload (pc1 := 32) d_State_boundOf_30 rfl 4 rfl ?_
    refine g_iadd (pc1 := 33) d_State_boundOf_32 rfl ?_
    refine g_aload_n (pc1 := 34) d_State_boundOf_33 rfl 0 rfl ?_
    refine g_geti (pc1 := 37) d_State_boundOf_34 rfl ⟨_, fo_State_34⟩ (shSt_0 hX0) (ltSt_0 hX0) ?_
    refine g_iload (pc1 := 39) d_State_boundOf_37 rfl 4 rfl ?_
    refine g_iadd (pc1 := 40) d_State_boundOf_39 rfl ?_
    refine g_callV0 (pc1 := 43) (As := [.int p2, .int p3, .int r5, .int (r7 + p4), .int ((M X0 0) + p4)]) (rest := []) d_State_boundOf_40 rfl mo_State_104 mi_Land_boundBy mv_Land_boundBy rfl (shLa_0 hLd1) (ltLa_0 hLd1) (by decide) rfl rfl (Nat.le_of_ble_eq_true rfl) ?_
    obtain ⟨r9, M10, hq8, h⟩ := bnd2 h
    refine f_Land_boundBy hld hLd1 hq8 ?_
    dsimp only [psh]
    refine g_ireturn (Or.inl rfl) d_State_boundOf_43 rfl ?_
    cases h; exact hQ
  · replace h := itp h c3
    refine g_iconst (pc1 := 9) (v := 0) d_State_boundOf_8 rfl (by decide) ?_
    refine g_ireturn (Or.inl rfl) d_State_boundOf_9 rfl ?_
    cases h; exact hQ

def J_State_passDays_66 (X0 : Nat) (Ld1 : Nat) (K2 : Int32 → gM → Option (gM)) (v2 : Int32) (v3 : Int32) (M : gM) : Option (gM) :=
  nmM (uM M X0 0 ((M X0 0) + 1)) (fun M3 => nmI (v3 + 1) (fun x4 => K2 x4 M3))
set_option maxHeartbeats 4000000 in
set_option maxRecDepth 20000 in
theorem j_State_passDays_66 {l : Launch} {ld : Nat} {Q : Option Value → gM → gL → gR → Prop} (hld : isLa ld) {X0 : Nat} {Ld1 : Nat} (hX0 : isSt X0) (hLd1 : isLa Ld1) {q : gM} {M : gM} {L : gL} (hQ : Q none q L (rf ld)) {K2 : Int32 → gM → Option (gM)} {v2 : Int32} {v3 : Int32} (hK2 : ∀ (w3 : Int32) (M : gM), K2 w3 M = some q → Wp l y_State_passDays (0, 0, 447) 447 0 0 2 [(0, .ref X0), (1, .ref Ld1), (2, .int v2), (3, .int w3)] [] M L (rf ld) Q) (h : J_State_passDays_66 X0 Ld1 K2 v2 v3 M = some q) : Wp l y_State_passDays (0, 0, 447) 447 0 0 66 [(0, .ref X0), (1, .ref Ld1), (2, .int v2), (3, .int v3)] [] M L (rf ld) Q := by
  unfold J_State_passDays_66 at h
  refine g_aload_n (pc1 := 67) d_State_passDays_66 rfl 0 rfl ?_
  refine g_dup (pc1 := 68) d_State_passDays_67 rfl rfl ?_
  refine g_geti (pc1 := 71) d_State_passDays_68 rfl ⟨_, fo_State_34⟩ (shSt_0 hX0) (ltSt_0 hX0) ?_
  refine g_iconst (pc1 := 72) (v := 1) d_State_passDays_71 rfl (by decide) ?_
  refine g_iadd (pc1 := 73) d_State_passDays_72 rfl ?_
  refine g_puti (pc1 := 76) d_State_passDays_73 rfl fo_State_34 (po_6_0 _) (shSt_0 hX0) (ltSt_0 hX0) ?_
  refine Wp.lM h (fun M3 h => ?_)
  obtain ⟨x4, ex4, h⟩ := ltI h
  refine g_iinc (pc1 := 79) (v := x4) (lv' := [(0, .ref X0), (1, .ref Ld1), (2, .int v2), (3, .int x4)]) d_State_passDays_76 rfl 3 rfl (by rw [ex4]; rfl) (by decide) [1, 2, 3, 0] rfl ?_
  refine g_goto (tgt := 2) d_State_passDays_79 (by decide) ?_
  exact hK2 x4 M3 h
def B_State_passDays_10 (X0 : Nat) (Ld1 : Nat) (K2 : Int32 → gM → Option (gM)) (v2 : Int32) (v3 : Int32) (K10 : Int32 → gM → Option (gM)) : Int32 → gM → Option (gM) := fun v4 M =>
  (if (M Ld1 0) ≤ v4 then J_State_passDays_66 X0 Ld1 K2 v2 v3 M else bI (F_Main_at (X0 + 2) 6 v4 M) (fun r6 => bI2 (F_Land_fillOf Ld1 v4 r6 (M X0 0) M) (fun r8 M9 => bI (F_Main_within (r6 + r8) 0 99) (fun r11 => bI (F_Main_put (X0 + 2) 6 v4 r11 M9) (fun M13 => nmI (v4 + 1) (fun x14 => K10 x14 M13))))))
def H_State_passDays_10 (X0 : Nat) (Ld1 : Nat) (K2 : Int32 → gM → Option (gM)) (v2 : Int32) (v3 : Int32) : Nat → Int32 → gM → Option (gM) := lpK (B_State_passDays_10 X0 Ld1 K2 v2 v3) (fun _ _ => none)
set_option maxHeartbeats 4000000 in
set_option maxRecDepth 20000 in
theorem h_State_passDays_10 {l : Launch} {ld : Nat} {Q : Option Value → gM → gL → gR → Prop} (hld : isLa ld) {X0 : Nat} {Ld1 : Nat} (hX0 : isSt X0) (hLd1 : isLa Ld1) {q : gM} {L : gL} (hQ : Q none q L (rf ld)) {K2 : Int32 → gM → Option (gM)} {v2 : Int32} {v3 : Int32} (hK2 : ∀ (w3 : Int32) (M : gM), K2 w3 M = some q → Wp l y_State_passDays (0, 0, 447) 447 0 0 2 [(0, .ref X0), (1, .ref Ld1), (2, .int v2), (3, .int w3)] [] M L (rf ld) Q) : ∀ (f : Nat) (v4 : Int32) (M : gM), H_State_passDays_10 X0 Ld1 K2 v2 v3 f v4 M = some q → Wp l y_State_passDays (0, 0, 447) 447 0 0 10 [(0, .ref X0), (1, .ref Ld1), (2, .int v2), (3, .int v3), (4, .int v4)] [] M L (rf ld) Q := by
  intro f
  induction f with
  | zero => intro v4 M h; cases h
  | succ f hK10 =>
    intro v4 M h
    replace h : B_State_passDays_10 X0 Ld1 K2 v2 v3 (H_State_passDays_10 X0 Ld1 K2 v2 v3 f) v4 M = some q := h
    unfold B_State_passDays_10 at h
    refine g_iload (pc1 := 12) d_State_passDays_10 rfl 4 rfl ?_
    refine g_aload_n (pc1 := 13) d_State_passDays_12 rfl 1 rfl ?_
    refine g_geti (pc1 := 16) d_State_passDays_13 rfl ⟨_, fo_State_47⟩ (shLa_0 hLd1) (ltLa_0 hLd1) ?_
    refine g_icmp_ge (pc1 := 19) (tgt := 66) d_State_passDays_16 (by decide) rfl (fun c2 => ?_) (fun c2 => ?_)
    · replace h := itp h c2
      refine Wp.loc (lv' := [(0, .ref X0), (1, .ref Ld1), (2, .int v2), (3, .int v3)]) [0, 1, 2, 3] rfl ?_
      exact j_State_passDays_66 hld hX0 hLd1 hQ hK2 h
    · replace h := itn h c2
      refine g_aload_n (pc1 := 20) d_State_passDays_19 rfl 0 rfl ?_
      refine g_getr (pc1 := 23) d_State_passDays_20 rfl ⟨_, fo_State_19⟩ (shSt_0 hX0) (ltSt_0 hX0) (rfSt_5 ld hX0) ?_
      refine g_iload (pc1 := 25) d_State_passDays_23 rfl 4 rfl ?_
      refine g_callS0 (pc1 := 28) (As := [.ref (X0 + 2), .int v4]) (rest := []) d_State_passDays_25 rfl mo_State_53 ms_Main_at (by decide) rfl rfl (Nat.le_of_ble_eq_true rfl) ?_
      obtain ⟨r6, hq5, h⟩ := bnd h
      refine f_Main_at hld (shSt_2 hX0) (ltSt_2 hX0) (by decide) hq5 ?_
      dsimp only [psh]
      refine g_istore (pc1 := 30) (lv' := [(0, .ref X0), (1, .ref Ld1), (2, .int v2), (3, .int v3), (4, .int v4), (5, .int r6)]) d_State_passDays_28 rfl (by decide) [1, 2, 3, 4, 5, 0] rfl ?_
      refine g_aload_n (pc1 := 31) d_State_passDays_30 rfl 0 rfl ?_
      refine g_getr (pc1 := 34) d_State_passDays_31 rfl ⟨_, fo_State_19⟩ (shSt_0 hX0) (ltSt_0 hX0) (rfSt_5 ld hX0) ?_
      refine g_iload (pc1 := 36) d_State_passDays_34 rfl 4 rfl ?_
      refine g_iload (pc1 := 38) d_State_passDays_36 rfl 5 rfl ?_
      refine g_aload_n (pc1 := 39) d_State_passDays_38 rfl 1 rfl ?_
      refine g_iload (pc1 := 41) d_State_passDays_39 rfl 4 rfl ?_
      refine g_iload (pc1 := 43) d_State_passDays_41 rfl 5 rfl ?_
      refine g_aload_n (pc1 := 44) d_State_passDays_43 rfl 0 rfl ?_
      refine g_geti (pc1 := 47) d_State_passDays_44 rfl ⟨_, fo_State_34⟩ (shSt_0 hX0) (ltSt_0 hX0) ?_
      refine g_callV0 (pc1 := 50) (As := [.int v4, .int r6, .int (M X0 0)]) (rest := [.int r6, .int v4, .ref (X0 + 2)]) d_State_passDays_47 rfl mo_State_91 mi_Land_fillOf mv_Land_fillOf rfl (shLa_0 hLd1) (ltLa_0 hLd1) (by decide) rfl rfl (Nat.le_of_ble_eq_true rfl) ?_
      obtain ⟨r8, M9, hq7, h⟩ := bnd2 h
      refine f_Land_fillOf hld hLd1 hq7 ?_
      dsimp only [psh]
      refine g_iadd (pc1 := 51) d_State_passDays_50 rfl ?_
      refine g_iconst (pc1 := 52) (v := 0) d_State_passDays_51 rfl (by decide) ?_
      refine g_bipush (pc1 := 54) (v := 99) d_State_passDays_52 rfl (by decide) ?_
      refine g_callS0 (pc1 := 57) (As := [.int (r6 + r8), .int 0, .int 99]) (rest := [.int v4, .ref (X0 + 2)]) d_State_passDays_54 rfl mo_State_94 ms_Main_within (by decide) rfl rfl (Nat.le_of_ble_eq_true rfl) ?_
      obtain ⟨r11, hq10, h⟩ := bnd h
      refine f_Main_within hld  hq10 ?_
      dsimp only [psh]
      refine g_callS0 (pc1 := 60) (As := [.ref (X0 + 2), .int v4, .int r11]) (rest := []) d_State_passDays_57 rfl mo_State_57 ms_Main_put (by decide) rfl rfl (Nat.le_of_ble_eq_true rfl) ?_
      obtain ⟨M13, hq12, h⟩ := bnd h
      refine f_Main_put hld (shSt_2 hX0) (ltSt_2 hX0) (by decide) hq12 ?_
      dsimp only [psh]
      obtain ⟨x14, ex14, h⟩ := ltI h
      refine g_iinc (pc1 := 63) (v := x14) (lv' := [(0, .ref X0), (1, .ref Ld1), (2, .int v2), (3, .int v3), (4, .int x14), (5, .int r6)]) d_State_passDays_60 rfl 4 rfl (by rw [ex14]; rfl) (by decide) [1, 2, 3, 4, 0, 5] rfl ?_
      refine g_goto (tgt := 10) d_State_passDays_63 (by decide) ?_
      refine Wp.loc (lv' := [(0, .ref X0), (1, .ref Ld1), (2, .int v2), (3, .int v3), (4, .int x14)]) [0, 1, 2, 3, 4] rfl ?_
      exact hK10 x14 M13 h
def B_State_passDays_2 (X0 : Nat) (Ld1 : Nat) (v2 : Int32) (K2 : Int32 → gM → Option (gM)) : Int32 → gM → Option (gM) := fun v3 M =>
  (if v2 ≤ v3 then some M else H_State_passDays_10 X0 Ld1 K2 v2 v3 FU 0 M)
def H_State_passDays_2 (X0 : Nat) (Ld1 : Nat) (v2 : Int32) : Nat → Int32 → gM → Option (gM) := lpK (B_State_passDays_2 X0 Ld1 v2) (fun _ _ => none)
set_option maxHeartbeats 4000000 in
set_option maxRecDepth 20000 in
theorem h_State_passDays_2 {l : Launch} {ld : Nat} {Q : Option Value → gM → gL → gR → Prop} (hld : isLa ld) {X0 : Nat} {Ld1 : Nat} (hX0 : isSt X0) (hLd1 : isLa Ld1) {q : gM} {L : gL} (hQ : Q none q L (rf ld))  {v2 : Int32}  : ∀ (f : Nat) (v3 : Int32) (M : gM), H_State_passDays_2 X0 Ld1 v2 f v3 M = some q → Wp l y_State_passDays (0, 0, 447) 447 0 0 2 [(0, .ref X0), (1, .ref Ld1), (2, .int v2), (3, .int v3)] [] M L (rf ld) Q := by
  intro f
  induction f with
  | zero => intro v3 M h; cases h
  | succ f hK2 =>
    intro v3 M h
    replace h : B_State_passDays_2 X0 Ld1 v2 (H_State_passDays_2 X0 Ld1 v2 f) v3 M = some q := h
    unfold B_State_passDays_2 at h
    refine g_iload_n (pc1 := 3) d_State_passDays_2 rfl 3 rfl ?_
    refine g_iload_n (pc1 := 4) d_State_passDays_3 rfl 2 rfl ?_
    refine g_icmp_ge (pc1 := 7) (tgt := 82) d_State_passDays_4 (by decide) rfl (fun c1 => ?_) (fun c1 => ?_)
    · replace h := itp h c1
      refine g_return rfl d_State_passDays_82 rfl ?_
      cases h; exact hQ
    · replace h := itn h c1
      refine g_iconst (pc1 := 8) (v := 0) d_State_passDays_7 rfl (by decide) ?_
      refine g_istore (pc1 := 10) (lv' := [(0, .ref X0), (1, .ref Ld1), (2, .int v2), (3, .int v3), (4, .int 0)]) d_State_passDays_8 rfl (by decide) [1, 2, 3, 4, 0] rfl ?_
      exact h_State_passDays_10 hld hX0 hLd1 hQ hK2 _ 0 M h
def F_State_passDays (X0 : Nat) (Ld1 : Nat) (p2 : Int32) (M : gM) : Option (gM) :=
  H_State_passDays_2 X0 Ld1 p2 FU 0 M
set_option maxHeartbeats 4000000 in
set_option maxRecDepth 20000 in
theorem f_State_passDays {l : Launch} {ld : Nat} {M : gM} {L : gL} {Q : Option Value → gM → gL → gR → Prop} (hld : isLa ld) {X0 : Nat} {Ld1 : Nat} {p2 : Int32} (hX0 : isSt X0) (hLd1 : isLa Ld1) {q : gM} (h : F_State_passDays X0 Ld1 p2 M = some q) (hQ : Q none q L (rf ld)) : Tm l y_State_passDays (0, 0, 447) 447 [.ref X0, .ref Ld1, .int p2] M L (rf ld) Q := by
  refine Tm.of (by decide) (Nat.le_of_ble_eq_true rfl) ?_
  show Wp l y_State_passDays (0, 0, 447) 447 0 0 0 [(0, .ref X0), (1, .ref Ld1), (2, .int p2)] [] M L (rf ld) Q
  unfold F_State_passDays at h
  refine g_iconst (pc1 := 1) (v := 0) d_State_passDays_0 rfl (by decide) ?_
  refine g_istore_n (pc1 := 2) (lv' := [(0, .ref X0), (1, .ref Ld1), (2, .int p2), (3, .int 0)]) d_State_passDays_1 rfl rfl (by decide) [1, 2, 3, 0] rfl ?_
  exact h_State_passDays_2 hld hX0 hLd1 hQ  _ 0 M h

def J_Tokens_cut_58 (M : gM) (L : gL) : Option (gM × gL) :=
  some (M, L)
set_option maxHeartbeats 4000000 in
set_option maxRecDepth 20000 in
theorem j_Tokens_cut_58 {l : Launch} {ld : Nat} {Q : Option Value → gM → gL → gR → Prop} (hld : isLa ld)   {q : gM × gL} {M : gM} {L : gL} (hQ : Q none q.1 q.2 (rf ld))    (h : J_Tokens_cut_58 M L = some q) : Wp l y_Tokens_cut (0, 0, 447) 447 0 0 58 [] [] M L (rf ld) Q := by
  unfold J_Tokens_cut_58 at h
  refine g_goto (tgt := 67) d_Tokens_cut_58 (by decide) ?_
  refine g_return rfl d_Tokens_cut_67 rfl ?_
  cases h; exact hQ
def B_Tokens_cut_4  (K4 : Int32 → Int32 → gM → gL → Option (gM × gL)) : Int32 → Int32 → gM → gL → Option (gM × gL) := fun v2 v3 M L =>
  (if 401 ≤ v3 then some (M, L) else bI (F_Tokens_behindBlanks v2 M) (fun r3 => bI3 (F_Tokens_cutOne r3 v3 M L) (fun r5 M6 L7 => bI (F_Main_put 7 401 v3 r3 M6) (fun M9 => (if (v3 : Int32) < 0 ∨ 401 ≤ (v3 : Int32).toNatClampNeg then none else (if (M9 6 (v3 : Int32).toNatClampNeg) = 0 then some (M9, L7) else (if (v3 : Int32) < 0 ∨ 401 ≤ (v3 : Int32).toNatClampNeg then none else (if (M9 6 (v3 : Int32).toNatClampNeg) = 1 then J_Tokens_cut_58 M9 L7 else nmI (v3 + 1) (fun x14 => K4 r5 x14 M9 L7)))))))))
def H_Tokens_cut_4  : Nat → Int32 → Int32 → gM → gL → Option (gM × gL) := lpK (B_Tokens_cut_4 ) (fun _ _ _ _ => none)
set_option maxHeartbeats 4000000 in
set_option maxRecDepth 20000 in
theorem h_Tokens_cut_4 {l : Launch} {ld : Nat} {Q : Option Value → gM → gL → gR → Prop} (hld : isLa ld)   {q : gM × gL} (hQ : Q none q.1 q.2 (rf ld))    : ∀ (f : Nat) (v2 : Int32) (v3 : Int32) (M : gM) (L : gL), H_Tokens_cut_4  f v2 v3 M L = some q → Wp l y_Tokens_cut (0, 0, 447) 447 0 0 4 [(0, .ref 4), (1, .ref 1), (2, .int v2), (3, .int v3)] [] M L (rf ld) Q := by
  intro f
  induction f with
  | zero => intro v2 v3 M L h; cases h
  | succ f hK4 =>
    intro v2 v3 M L h
    replace h : B_Tokens_cut_4  (H_Tokens_cut_4  f) v2 v3 M L = some q := h
    unfold B_Tokens_cut_4 at h
    refine g_iload_n (pc1 := 5) d_Tokens_cut_4 rfl 3 rfl ?_
    refine g_aload_n (pc1 := 6) d_Tokens_cut_5 rfl 0 rfl ?_
    refine g_getr (pc1 := 9) d_Tokens_cut_6 rfl ⟨_, fo_Tokens_15⟩ sh_4 (by decide) (rf_4_1 ld) ?_
    refine g_alen (pc1 := 10) (v := 401) d_Tokens_cut_9 rfl sh_6 (by decide) (by decide) (by decide) (by decide) ?_
    refine g_icmp_ge (pc1 := 13) (tgt := 67) d_Tokens_cut_10 (by decide) rfl (fun c1 => ?_) (fun c1 => ?_)
    · replace h := itp h c1
      refine g_return rfl d_Tokens_cut_67 rfl ?_
      cases h; exact hQ
    · replace h := itn h c1
      refine g_aload_n (pc1 := 14) d_Tokens_cut_13 rfl 1 rfl ?_
      refine g_iload_n (pc1 := 15) d_Tokens_cut_14 rfl 2 rfl ?_
      refine g_callS0 (pc1 := 18) (As := [.ref 1, .int v2]) (rest := []) d_Tokens_cut_15 rfl mo_Tokens_43 ms_Tokens_behindBlanks (by decide) rfl rfl (Nat.le_of_ble_eq_true rfl) ?_
      obtain ⟨r3, hq2, h⟩ := bnd h
      refine f_Tokens_behindBlanks hld  hq2 ?_
      dsimp only [psh]
      refine g_istore (pc1 := 20) (lv' := [(0, .ref 4), (1, .ref 1), (2, .int v2), (3, .int v3), (4, .int r3)]) d_Tokens_cut_18 rfl (by decide) [1, 2, 3, 4, 0] rfl ?_
      refine g_aload_n (pc1 := 21) d_Tokens_cut_20 rfl 0 rfl ?_
      refine g_aload_n (pc1 := 22) d_Tokens_cut_21 rfl 1 rfl ?_
      refine g_iload (pc1 := 24) d_Tokens_cut_22 rfl 4 rfl ?_
      refine g_iload_n (pc1 := 25) d_Tokens_cut_24 rfl 3 rfl ?_
      refine g_callV0 (pc1 := 28) (As := [.ref 1, .int r3, .int v3]) (rest := []) d_Tokens_cut_25 rfl mo_Tokens_47 mi_Tokens_cutOne mv_Tokens_cutOne rfl sh_4 (by decide) (by decide) rfl rfl (Nat.le_of_ble_eq_true rfl) ?_
      obtain ⟨r5, M6, L7, hq4, h⟩ := bnd3 h
      refine f_Tokens_cutOne hld  hq4 ?_
      dsimp only [psh]
      refine g_istore_n (pc1 := 29) (lv' := [(0, .ref 4), (1, .ref 1), (2, .int r5), (3, .int v3), (4, .int r3)]) d_Tokens_cut_28 rfl rfl (by decide) [1, 2, 0, 3, 4] rfl ?_
      refine g_aload_n (pc1 := 30) d_Tokens_cut_29 rfl 0 rfl ?_
      refine g_getr (pc1 := 33) d_Tokens_cut_30 rfl ⟨_, fo_Tokens_19⟩ sh_4 (by decide) (rf_4_2 ld) ?_
      refine g_iload_n (pc1 := 34) d_Tokens_cut_33 rfl 3 rfl ?_
      refine g_iload (pc1 := 36) d_Tokens_cut_34 rfl 4 rfl ?_
      refine g_callS0 (pc1 := 39) (As := [.ref 7, .int v3, .int r3]) (rest := []) d_Tokens_cut_36 rfl mo_Tokens_51 ms_Main_put (by decide) rfl rfl (Nat.le_of_ble_eq_true rfl) ?_
      obtain ⟨M9, hq8, h⟩ := bnd h
      refine f_Main_put hld sh_7 (by decide) (by decide) hq8 ?_
      dsimp only [psh]
      refine g_aload_n (pc1 := 40) d_Tokens_cut_39 rfl 0 rfl ?_
      refine g_getr (pc1 := 43) d_Tokens_cut_40 rfl ⟨_, fo_Tokens_15⟩ sh_4 (by decide) (rf_4_1 ld) ?_
      refine g_iload_n (pc1 := 44) d_Tokens_cut_43 rfl 3 rfl ?_
      obtain ⟨g10, h⟩ := gdn h
      refine g_iald (pc1 := 45) d_Tokens_cut_44 rfl sh_6 (by decide) g10 ?_
      refine g_if_eq (pc1 := 48) (tgt := 67) d_Tokens_cut_45 (by decide) rfl (fun c11 => ?_) (fun c11 => ?_)
      · replace h := itp h c11
        refine g_return rfl d_Tokens_cut_67 rfl ?_
        cases h; exact hQ
      · replace h := itn h c11
        refine g_aload_n (pc1 := 49) d_Tokens_cut_48 rfl 0 rfl ?_
        refine g_getr (pc1 := 52) d_Tokens_cut_49 rfl ⟨_, fo_Tokens_15⟩ sh_4 (by decide) (rf_4_1 ld) ?_
        refine g_iload_n (pc1 := 53) d_Tokens_cut_52 rfl 3 rfl ?_
        obtain ⟨g12, h⟩ := gdn h
        refine g_iald (pc1 := 54) d_Tokens_cut_53 rfl sh_6 (by decide) g12 ?_
        refine g_iconst (pc1 := 55) (v := 1) d_Tokens_cut_54 rfl (by decide) ?_
        refine g_icmp_ne (pc1 := 58) (tgt := 61) d_Tokens_cut_55 (by decide) rfl (fun c13 => ?_) (fun c13 => ?_)
        · replace h := itn h c13
          obtain ⟨x14, ex14, h⟩ := ltI h
          refine g_iinc (pc1 := 64) (v := x14) (lv' := [(0, .ref 4), (1, .ref 1), (2, .int r5), (3, .int x14), (4, .int r3)]) d_Tokens_cut_61 rfl 3 rfl (by rw [ex14]; rfl) (by decide) [1, 2, 3, 0, 4] rfl ?_
          refine g_goto (tgt := 4) d_Tokens_cut_64 (by decide) ?_
          refine Wp.loc (lv' := [(0, .ref 4), (1, .ref 1), (2, .int r5), (3, .int x14)]) [0, 1, 2, 3] rfl ?_
          exact hK4 r5 x14 M9 L7 h
        · replace h := itp h c13
          refine Wp.loc (lv' := []) [] rfl ?_
          exact j_Tokens_cut_58 hld  hQ  h
def F_Tokens_cut (M : gM) (L : gL) : Option (gM × gL) :=
  H_Tokens_cut_4 FU 0 0 M L
set_option maxHeartbeats 4000000 in
set_option maxRecDepth 20000 in
theorem f_Tokens_cut {l : Launch} {ld : Nat} {M : gM} {L : gL} {Q : Option Value → gM → gL → gR → Prop} (hld : isLa ld)   {q : gM × gL} (h : F_Tokens_cut M L = some q) (hQ : Q none q.1 q.2 (rf ld)) : Tm l y_Tokens_cut (0, 0, 447) 447 [.ref 4, .ref 1] M L (rf ld) Q := by
  refine Tm.of (by decide) (Nat.le_of_ble_eq_true rfl) ?_
  show Wp l y_Tokens_cut (0, 0, 447) 447 0 0 0 [(0, .ref 4), (1, .ref 1)] [] M L (rf ld) Q
  unfold F_Tokens_cut at h
  refine g_iconst (pc1 := 1) (v := 0) d_Tokens_cut_0 rfl (by decide) ?_
  refine g_istore_n (pc1 := 2) (lv' := [(0, .ref 4), (1, .ref 1), (2, .int 0)]) d_Tokens_cut_1 rfl rfl (by decide) [1, 2, 0] rfl ?_
  refine g_iconst (pc1 := 3) (v := 0) d_Tokens_cut_2 rfl (by decide) ?_
  refine g_istore_n (pc1 := 4) (lv' := [(0, .ref 4), (1, .ref 1), (2, .int 0), (3, .int 0)]) d_Tokens_cut_3 rfl rfl (by decide) [1, 2, 3, 0] rfl ?_
  exact h_Tokens_cut_4 hld  hQ  _ 0 0 M L h

def F_Told_forceOf (Ld1 : Nat) (p2 : Int32) (p3 : Int32) (p4 : Int32) (p5 : Int32) (M : gM) : Option (Int32 × gM) :=
  bI (F_Main_at 389 195 ((p3 * 3) + p4) M) (fun r2 => bI (F_Main_at 388 65 p3 M) (fun r4 => bI2 (F_Land_potForce Ld1 p4 r2 p5 r4 p2 M) (fun r6 M7 => some (r6, M7))))
set_option maxHeartbeats 4000000 in
set_option maxRecDepth 20000 in
theorem f_Told_forceOf {l : Launch} {ld : Nat} {M : gM} {L : gL} {Q : Option Value → gM → gL → gR → Prop} (hld : isLa ld) {Ld1 : Nat} {p2 : Int32} {p3 : Int32} {p4 : Int32} {p5 : Int32} (hLd1 : isLa Ld1) {q : Int32 × gM} (h : F_Told_forceOf Ld1 p2 p3 p4 p5 M = some q) (hQ : Q (some (.int q.1)) q.2 L (rf ld)) : Tm l y_Told_forceOf (0, 0, 447) 447 [.ref 383, .ref Ld1, .int p2, .int p3, .int p4, .int p5] M L (rf ld) Q := by
  refine Tm.of (by decide) (Nat.le_of_ble_eq_true rfl) ?_
  show Wp l y_Told_forceOf (0, 0, 447) 447 0 0 0 [(0, .ref 383), (1, .ref Ld1), (2, .int p2), (3, .int p3), (4, .int p4), (5, .int p5)] [] M L (rf ld) Q
  unfold F_Told_forceOf at h
  refine g_aload_n (pc1 := 1) d_Told_forceOf_0 rfl 1 rfl ?_
  refine g_iload (pc1 := 3) d_Told_forceOf_1 rfl 4 rfl ?_
  refine g_aload_n (pc1 := 4) d_Told_forceOf_3 rfl 0 rfl ?_
  refine g_getr (pc1 := 7) d_Told_forceOf_4 rfl ⟨_, fo_Told_27⟩ sh_383 (by decide) (rf_383_6 ld) ?_
  refine g_iload_n (pc1 := 8) d_Told_forceOf_7 rfl 3 rfl ?_
  refine g_iconst (pc1 := 9) (v := 3) d_Told_forceOf_8 rfl (by decide) ?_
  refine g_imul (pc1 := 10) d_Told_forceOf_9 rfl ?_
  refine g_iload (pc1 := 12) d_Told_forceOf_10 rfl 4 rfl ?_
  refine g_iadd (pc1 := 13) d_Told_forceOf_12 rfl ?_
  refine g_callS0 (pc1 := 16) (As := [.ref 389, .int ((p3 * 3) + p4)]) (rest := [.int p4, .ref Ld1]) d_Told_forceOf_13 rfl mo_Told_73 ms_Main_at (by decide) rfl rfl (Nat.le_of_ble_eq_true rfl) ?_
  obtain ⟨r2, hq1, h⟩ := bnd h
  refine f_Main_at hld sh_389 (by decide) (by decide) hq1 ?_
  dsimp only [psh]
  refine g_iload (pc1 := 18) d_Told_forceOf_16 rfl 5 rfl ?_
  refine g_aload_n (pc1 := 19) d_Told_forceOf_18 rfl 0 rfl ?_
  refine g_getr (pc1 := 22) d_Told_forceOf_19 rfl ⟨_, fo_Told_24⟩ sh_383 (by decide) (rf_383_5 ld) ?_
  refine g_iload_n (pc1 := 23) d_Told_forceOf_22 rfl 3 rfl ?_
  refine g_callS0 (pc1 := 26) (As := [.ref 388, .int p3]) (rest := [.int p5, .int r2, .int p4, .ref Ld1]) d_Told_forceOf_23 rfl mo_Told_73 ms_Main_at (by decide) rfl rfl (Nat.le_of_ble_eq_true rfl) ?_
  obtain ⟨r4, hq3, h⟩ := bnd h
  refine f_Main_at hld sh_388 (by decide) (by decide) hq3 ?_
  dsimp only [psh]
  refine g_iload_n (pc1 := 27) d_Told_forceOf_26 rfl 2 rfl ?_
  refine g_callV0 (pc1 := 30) (As := [.int p4, .int r2, .int p5, .int r4, .int p2]) (rest := []) d_Told_forceOf_27 rfl mo_Told_81 mi_Land_potForce mv_Land_potForce rfl (shLa_0 hLd1) (ltLa_0 hLd1) (by decide) rfl rfl (Nat.le_of_ble_eq_true rfl) ?_
  obtain ⟨r6, M7, hq5, h⟩ := bnd2 h
  refine f_Land_potForce hld hLd1 hq5 ?_
  dsimp only [psh]
  refine g_ireturn (Or.inl rfl) d_Told_forceOf_30 rfl ?_
  cases h; exact hQ

def J_Told_lay_141 (Ld1 : Nat) (K115 : Int32 → gM → Option (Int32 × gM)) (v2 : Int32) (v4 : Int32) (v5 : Int32) (v7 : Int32) (s0 : Int32) (M : gM) : Option (Int32 × gM) :=
  bI (F_Land_sumOf Ld1 v2 v7 M) (fun r19 => bI (F_Main_put 389 195 (((M 383 7) * 3) + v7) (r19 + s0) M) (fun M21 => nmI (v7 + 1) (fun x22 => K115 x22 M21)))
set_option maxHeartbeats 4000000 in
set_option maxRecDepth 20000 in
theorem j_Told_lay_141 {l : Launch} {ld : Nat} {Q : Option Value → gM → gL → gR → Prop} (hld : isLa ld) {Ld1 : Nat} (hLd1 : isLa Ld1) {q : Int32 × gM} {M : gM} {L : gL} (hQ : Q (some (.int q.1)) q.2 L (rf ld)) {K115 : Int32 → gM → Option (Int32 × gM)} {v2 : Int32} {v4 : Int32} {v5 : Int32} {v7 : Int32} {s0 : Int32} (hK115 : ∀ (w7 : Int32) (M : gM), K115 w7 M = some q → Wp l y_Told_lay (0, 0, 447) 447 0 0 115 [(0, .ref 383), (1, .ref Ld1), (2, .int v2), (4, .int v4), (5, .int v5), (7, .int w7)] [] M L (rf ld) Q) (h : J_Told_lay_141 Ld1 K115 v2 v4 v5 v7 s0 M = some q) : Wp l y_Told_lay (0, 0, 447) 447 0 0 141 [(0, .ref 383), (1, .ref Ld1), (2, .int v2), (4, .int v4), (5, .int v5), (7, .int v7)] [.int s0] M L (rf ld) Q := by
  unfold J_Told_lay_141 at h
  refine g_istore (pc1 := 143) (lv' := [(0, .ref 383), (1, .ref Ld1), (2, .int v2), (4, .int v4), (5, .int v5), (7, .int v7), (8, .int s0)]) d_Told_lay_141 rfl (by decide) [1, 2, 3, 4, 5, 6, 0] rfl ?_
  refine g_aload_n (pc1 := 144) d_Told_lay_143 rfl 0 rfl ?_
  refine g_getr (pc1 := 147) d_Told_lay_144 rfl ⟨_, fo_Told_27⟩ sh_383 (by decide) (rf_383_6 ld) ?_
  refine g_aload_n (pc1 := 148) d_Told_lay_147 rfl 0 rfl ?_
  refine g_geti (pc1 := 151) d_Told_lay_148 rfl ⟨_, fo_Told_41⟩ sh_383 (by decide) ?_
  refine g_iconst (pc1 := 152) (v := 3) d_Told_lay_151 rfl (by decide) ?_
  refine g_imul (pc1 := 153) d_Told_lay_152 rfl ?_
  refine g_iload (pc1 := 155) d_Told_lay_153 rfl 5 rfl ?_
  refine g_iadd (pc1 := 156) d_Told_lay_155 rfl ?_
  refine g_aload_n (pc1 := 157) d_Told_lay_156 rfl 1 rfl ?_
  refine g_iload_n (pc1 := 158) d_Told_lay_157 rfl 2 rfl ?_
  refine g_iload (pc1 := 160) d_Told_lay_158 rfl 5 rfl ?_
  refine g_callV0 (pc1 := 163) (As := [.int v2, .int v7]) (rest := [.int (((M 383 7) * 3) + v7), .ref 389]) d_Told_lay_160 rfl mo_Told_70 mi_Land_sumOf mv_Land_sumOf rfl (shLa_0 hLd1) (ltLa_0 hLd1) (by decide) rfl rfl (Nat.le_of_ble_eq_true rfl) ?_
  obtain ⟨r19, hq18, h⟩ := bnd h
  refine f_Land_sumOf hld hLd1 hq18 ?_
  dsimp only [psh]
  refine g_iload (pc1 := 165) d_Told_lay_163 rfl 6 rfl ?_
  refine g_iadd (pc1 := 166) d_Told_lay_165 rfl ?_
  refine g_callS0 (pc1 := 169) (As := [.ref 389, .int (((M 383 7) * 3) + v7), .int (r19 + s0)]) (rest := []) d_Told_lay_166 rfl mo_Told_37 ms_Main_put (by decide) rfl rfl (Nat.le_of_ble_eq_true rfl) ?_
  obtain ⟨M21, hq20, h⟩ := bnd h
  refine f_Main_put hld sh_389 (by decide) (by decide) hq20 ?_
  dsimp only [psh]
  obtain ⟨x22, ex22, h⟩ := ltI h
  refine g_iinc (pc1 := 172) (v := x22) (lv' := [(0, .ref 383), (1, .ref Ld1), (2, .int v2), (4, .int v4), (5, .int v5), (7, .int x22), (8, .int s0)]) d_Told_lay_169 rfl 5 rfl (by rw [ex22]; rfl) (by decide) [1, 2, 3, 4, 5, 0, 6] rfl ?_
  refine g_goto (tgt := 115) d_Told_lay_172 (by decide) ?_
  refine Wp.loc (lv' := [(0, .ref 383), (1, .ref Ld1), (2, .int v2), (4, .int v4), (5, .int v5), (7, .int x22)]) [0, 1, 2, 3, 4, 5] rfl ?_
  exact hK115 x22 M21 h
def B_Told_lay_115 (Ld1 : Nat) (v2 : Int32) (v4 : Int32) (v5 : Int32) (K115 : Int32 → gM → Option (Int32 × gM)) : Int32 → gM → Option (Int32 × gM) := fun v7 M =>
  (if 3 ≤ v7 then some (1, M) else (if v4 = 0 then J_Told_lay_141 Ld1 K115 v2 v4 v5 v7 0 M else bI (F_Land_broughtBy Ld1 v5 v7 M) (fun r17 => J_Told_lay_141 Ld1 K115 v2 v4 v5 v7 (v4 * r17) M)))
def H_Told_lay_115 (Ld1 : Nat) (v2 : Int32) (v4 : Int32) (v5 : Int32) : Nat → Int32 → gM → Option (Int32 × gM) := lpK (B_Told_lay_115 Ld1 v2 v4 v5) (fun _ _ => none)
set_option maxHeartbeats 4000000 in
set_option maxRecDepth 20000 in
theorem h_Told_lay_115 {l : Launch} {ld : Nat} {Q : Option Value → gM → gL → gR → Prop} (hld : isLa ld) {Ld1 : Nat} (hLd1 : isLa Ld1) {q : Int32 × gM} {L : gL} (hQ : Q (some (.int q.1)) q.2 L (rf ld))  {v2 : Int32} {v4 : Int32} {v5 : Int32}  : ∀ (f : Nat) (v7 : Int32) (M : gM), H_Told_lay_115 Ld1 v2 v4 v5 f v7 M = some q → Wp l y_Told_lay (0, 0, 447) 447 0 0 115 [(0, .ref 383), (1, .ref Ld1), (2, .int v2), (4, .int v4), (5, .int v5), (7, .int v7)] [] M L (rf ld) Q := by
  intro f
  induction f with
  | zero => intro v7 M h; cases h
  | succ f hK115 =>
    intro v7 M h
    replace h : B_Told_lay_115 Ld1 v2 v4 v5 (H_Told_lay_115 Ld1 v2 v4 v5 f) v7 M = some q := h
    unfold B_Told_lay_115 at h
    refine g_iload (pc1 := 117) d_Told_lay_115 rfl 5 rfl ?_
    refine g_iconst (pc1 := 118) (v := 3) d_Told_lay_117 rfl (by decide) ?_
    refine g_icmp_ge (pc1 := 121) (tgt := 175) d_Told_lay_118 (by decide) rfl (fun c14 => ?_) (fun c14 => ?_)
    · replace h := itp h c14
      refine g_iconst (pc1 := 176) (v := 1) d_Told_lay_175 rfl (by decide) ?_
      refine g_ireturn (Or.inr ⟨rfl, rfl⟩) d_Told_lay_176 rfl ?_
      cases h; exact hQ
    · replace h := itn h c14
      refine g_iload (pc1 := 123) d_Told_lay_121 rfl 3 rfl ?_
      refine g_if_ne (pc1 := 126) (tgt := 130) d_Told_lay_123 (by decide) rfl (fun c15 => ?_) (fun c15 => ?_)
      · replace h := itn h c15
        refine g_iload (pc1 := 132) d_Told_lay_130 rfl 3 rfl ?_
        refine g_aload_n (pc1 := 133) d_Told_lay_132 rfl 1 rfl ?_
        refine g_iload (pc1 := 135) d_Told_lay_133 rfl 4 rfl ?_
        refine g_iload (pc1 := 137) d_Told_lay_135 rfl 5 rfl ?_
        refine g_callV0 (pc1 := 140) (As := [.int v5, .int v7]) (rest := [.int v4]) d_Told_lay_137 rfl mo_Told_67 mi_Land_broughtBy mv_Land_broughtBy rfl (shLa_0 hLd1) (ltLa_0 hLd1) (by decide) rfl rfl (Nat.le_of_ble_eq_true rfl) ?_
        obtain ⟨r17, hq16, h⟩ := bnd h
        refine f_Land_broughtBy hld hLd1 hq16 ?_
        dsimp only [psh]
        refine g_imul (pc1 := 141) d_Told_lay_140 rfl ?_
        exact j_Told_lay_141 hld hLd1 hQ hK115 h
      · replace h := itp h c15
        refine g_iconst (pc1 := 127) (v := 0) d_Told_lay_126 rfl (by decide) ?_
        refine g_goto (tgt := 141) d_Told_lay_127 (by decide) ?_
        exact j_Told_lay_141 hld hLd1 hQ hK115 h
def J_Told_lay_79 (Ld1 : Nat) (v2 : Int32) (v4 : Int32) (v5 : Int32) (v6 : Int32) (M : gM) : Option (Int32 × gM) :=
  (if 1 ≤ v6 then bI (F_Main_put 387 65 (M 383 7) v2 M) (fun M11 => bI (F_Main_put 388 65 (M11 383 7) v6 M11) (fun M13 => H_Told_lay_115 Ld1 v2 v4 v5 FU 0 M13)) else some (0, M))
set_option maxHeartbeats 4000000 in
set_option maxRecDepth 20000 in
theorem j_Told_lay_79 {l : Launch} {ld : Nat} {Q : Option Value → gM → gL → gR → Prop} (hld : isLa ld) {Ld1 : Nat} (hLd1 : isLa Ld1) {q : Int32 × gM} {M : gM} {L : gL} (hQ : Q (some (.int q.1)) q.2 L (rf ld))  {v2 : Int32} {v4 : Int32} {v5 : Int32} {v6 : Int32}  (h : J_Told_lay_79 Ld1 v2 v4 v5 v6 M = some q) : Wp l y_Told_lay (0, 0, 447) 447 0 0 79 [(0, .ref 383), (1, .ref Ld1), (2, .int v2), (4, .int v4), (5, .int v5), (6, .int v6)] [] M L (rf ld) Q := by
  unfold J_Told_lay_79 at h
  refine g_iload (pc1 := 81) d_Told_lay_79 rfl 5 rfl ?_
  refine g_iconst (pc1 := 82) (v := 1) d_Told_lay_81 rfl (by decide) ?_
  refine g_icmp_ge (pc1 := 85) (tgt := 87) d_Told_lay_82 (by decide) rfl (fun c9 => ?_) (fun c9 => ?_)
  · replace h := itp h c9
    refine g_aload_n (pc1 := 88) d_Told_lay_87 rfl 0 rfl ?_
    refine g_getr (pc1 := 91) d_Told_lay_88 rfl ⟨_, fo_Told_21⟩ sh_383 (by decide) (rf_383_4 ld) ?_
    refine g_aload_n (pc1 := 92) d_Told_lay_91 rfl 0 rfl ?_
    refine g_geti (pc1 := 95) d_Told_lay_92 rfl ⟨_, fo_Told_41⟩ sh_383 (by decide) ?_
    refine g_iload_n (pc1 := 96) d_Told_lay_95 rfl 2 rfl ?_
    refine g_callS0 (pc1 := 99) (As := [.ref 387, .int (M 383 7), .int v2]) (rest := []) d_Told_lay_96 rfl mo_Told_37 ms_Main_put (by decide) rfl rfl (Nat.le_of_ble_eq_true rfl) ?_
    obtain ⟨M11, hq10, h⟩ := bnd h
    refine f_Main_put hld sh_387 (by decide) (by decide) hq10 ?_
    dsimp only [psh]
    refine g_aload_n (pc1 := 100) d_Told_lay_99 rfl 0 rfl ?_
    refine g_getr (pc1 := 103) d_Told_lay_100 rfl ⟨_, fo_Told_24⟩ sh_383 (by decide) (rf_383_5 ld) ?_
    refine g_aload_n (pc1 := 104) d_Told_lay_103 rfl 0 rfl ?_
    refine g_geti (pc1 := 107) d_Told_lay_104 rfl ⟨_, fo_Told_41⟩ sh_383 (by decide) ?_
    refine g_iload (pc1 := 109) d_Told_lay_107 rfl 5 rfl ?_
    refine g_callS0 (pc1 := 112) (As := [.ref 388, .int (M11 383 7), .int v6]) (rest := []) d_Told_lay_109 rfl mo_Told_37 ms_Main_put (by decide) rfl rfl (Nat.le_of_ble_eq_true rfl) ?_
    obtain ⟨M13, hq12, h⟩ := bnd h
    refine f_Main_put hld sh_388 (by decide) (by decide) hq12 ?_
    dsimp only [psh]
    refine g_iconst (pc1 := 113) (v := 0) d_Told_lay_112 rfl (by decide) ?_
    refine g_istore (pc1 := 115) (lv' := [(0, .ref 383), (1, .ref Ld1), (2, .int v2), (4, .int v4), (5, .int v5), (6, .int v6), (7, .int 0)]) d_Told_lay_113 rfl (by decide) [1, 2, 3, 4, 5, 6, 0] rfl ?_
    refine Wp.loc (lv' := [(0, .ref 383), (1, .ref Ld1), (2, .int v2), (4, .int v4), (5, .int v5), (7, .int 0)]) [0, 1, 2, 3, 4, 6] rfl ?_
    exact h_Told_lay_115 hld hLd1 hQ  _ 0 M13 h
  · replace h := itn h c9
    refine g_iconst (pc1 := 86) (v := 0) d_Told_lay_85 rfl (by decide) ?_
    refine g_ireturn (Or.inr ⟨rfl, rfl⟩) d_Told_lay_86 rfl ?_
    cases h; exact hQ
def J_Told_lay_64 (Ld1 : Nat) (v2 : Int32) (v4 : Int32) (v5 : Int32) (v6 : Int32) (M : gM) : Option (Int32 × gM) :=
  (if 0 ≤ v4 then J_Told_lay_79 Ld1 v2 v4 v5 v6 M else bI (F_Land_inDish Ld1 v2 v5 M) (fun r24 => (if r24 = 0 then some (0, M) else J_Told_lay_79 Ld1 v2 v4 v5 v6 M)))
set_option maxHeartbeats 4000000 in
set_option maxRecDepth 20000 in
theorem j_Told_lay_64 {l : Launch} {ld : Nat} {Q : Option Value → gM → gL → gR → Prop} (hld : isLa ld) {Ld1 : Nat} (hLd1 : isLa Ld1) {q : Int32 × gM} {M : gM} {L : gL} (hQ : Q (some (.int q.1)) q.2 L (rf ld))  {v2 : Int32} {v4 : Int32} {v5 : Int32} {v6 : Int32}  (h : J_Told_lay_64 Ld1 v2 v4 v5 v6 M = some q) : Wp l y_Told_lay (0, 0, 447) 447 0 0 64 [(0, .ref 383), (1, .ref Ld1), (2, .int v2), (4, .int v4), (5, .int v5), (6, .int v6)] [] M L (rf ld) Q := by
  unfold J_Told_lay_64 at h
  refine g_iload (pc1 := 66) d_Told_lay_64 rfl 3 rfl ?_
  refine g_if_ge (pc1 := 69) (tgt := 79) d_Told_lay_66 (by decide) rfl (fun c8 => ?_) (fun c8 => ?_)
  · replace h := itp h c8
    exact j_Told_lay_79 hld hLd1 hQ  h
  · replace h := itn h c8
    refine g_aload_n (pc1 := 70) d_Told_lay_69 rfl 1 rfl ?_
    refine g_iload_n (pc1 := 71) d_Told_lay_70 rfl 2 rfl ?_
    refine g_iload (pc1 := 73) d_Told_lay_71 rfl 4 rfl ?_
    refine g_callV0 (pc1 := 76) (As := [.int v2, .int v5]) (rest := []) d_Told_lay_73 rfl mo_Told_63 mi_Land_inDish mv_Land_inDish rfl (shLa_0 hLd1) (ltLa_0 hLd1) (by decide) rfl rfl (Nat.le_of_ble_eq_true rfl) ?_
    obtain ⟨r24, hq23, h⟩ := bnd h
    refine f_Land_inDish hld hLd1 hq23 ?_
    dsimp only [psh]
    refine g_if_eq (pc1 := 79) (tgt := 85) d_Told_lay_76 (by decide) rfl (fun c25 => ?_) (fun c25 => ?_)
    · replace h := itp h c25
      refine g_iconst (pc1 := 86) (v := 0) d_Told_lay_85 rfl (by decide) ?_
      refine g_ireturn (Or.inr ⟨rfl, rfl⟩) d_Told_lay_86 rfl ?_
      cases h; exact hQ
    · replace h := itn h c25
      exact j_Told_lay_79 hld hLd1 hQ  h
def J_Told_lay_38 (Ld1 : Nat) (v2 : Int32) (v4 : Int32) (s0 : Int32) (M : gM) : Option (Int32 × gM) :=
  bI (F_Land_manyIn Ld1 v2 M) (fun r5 => nmI (r5 + v4) (fun x6 => (if v4 = 0 then J_Told_lay_64 Ld1 v2 v4 s0 x6 M else (if (M Ld1 0) ≤ s0 then some (0, M) else J_Told_lay_64 Ld1 v2 v4 s0 x6 M))))
set_option maxHeartbeats 4000000 in
set_option maxRecDepth 20000 in
theorem j_Told_lay_38 {l : Launch} {ld : Nat} {Q : Option Value → gM → gL → gR → Prop} (hld : isLa ld) {Ld1 : Nat} (hLd1 : isLa Ld1) {q : Int32 × gM} {M : gM} {L : gL} (hQ : Q (some (.int q.1)) q.2 L (rf ld))  {v2 : Int32} {v4 : Int32} {s0 : Int32}  (h : J_Told_lay_38 Ld1 v2 v4 s0 M = some q) : Wp l y_Told_lay (0, 0, 447) 447 0 0 38 [(0, .ref 383), (1, .ref Ld1), (2, .int v2), (4, .int v4)] [.int s0] M L (rf ld) Q := by
  unfold J_Told_lay_38 at h
  refine g_istore (pc1 := 40) (lv' := [(0, .ref 383), (1, .ref Ld1), (2, .int v2), (4, .int v4), (5, .int s0)]) d_Told_lay_38 rfl (by decide) [1, 2, 3, 4, 0] rfl ?_
  refine g_aload_n (pc1 := 41) d_Told_lay_40 rfl 1 rfl ?_
  refine g_iload_n (pc1 := 42) d_Told_lay_41 rfl 2 rfl ?_
  refine g_callV0 (pc1 := 45) (As := [.int v2]) (rest := []) d_Told_lay_42 rfl mo_Told_56 mi_Land_manyIn mv_Land_manyIn rfl (shLa_0 hLd1) (ltLa_0 hLd1) (by decide) rfl rfl (Nat.le_of_ble_eq_true rfl) ?_
  obtain ⟨r5, hq4, h⟩ := bnd h
  refine f_Land_manyIn hld hLd1 hq4 ?_
  dsimp only [psh]
  refine g_iload (pc1 := 47) d_Told_lay_45 rfl 3 rfl ?_
  refine g_iadd (pc1 := 48) d_Told_lay_47 rfl ?_
  refine Wp.lI h (fun x6 h => ?_)
  refine g_istore (pc1 := 50) (lv' := [(0, .ref 383), (1, .ref Ld1), (2, .int v2), (4, .int v4), (5, .int s0), (6, .int x6)]) d_Told_lay_48 rfl (by decide) [1, 2, 3, 4, 5, 0] rfl ?_
  refine g_iload (pc1 := 52) d_Told_lay_50 rfl 3 rfl ?_
  refine g_if_eq (pc1 := 55) (tgt := 64) d_Told_lay_52 (by decide) rfl (fun c7 => ?_) (fun c7 => ?_)
  · replace h := itp h c7
    exact j_Told_lay_64 hld hLd1 hQ  h
  · replace h := itn h c7
    refine g_iload (pc1 := 57) d_Told_lay_55 rfl 4 rfl ?_
    refine g_aload_n (pc1 := 58) d_Told_lay_57 rfl 1 rfl ?_
    refine g_geti (pc1 := 61) d_Told_lay_58 rfl ⟨_, fo_Told_60⟩ (shLa_0 hLd1) (ltLa_0 hLd1) ?_
    refine g_icmp_ge (pc1 := 64) (tgt := 85) d_Told_lay_61 (by decide) rfl (fun c26 => ?_) (fun c26 => ?_)
    · replace h := itp h c26
      refine g_iconst (pc1 := 86) (v := 0) d_Told_lay_85 rfl (by decide) ?_
      refine g_ireturn (Or.inr ⟨rfl, rfl⟩) d_Told_lay_86 rfl ?_
      cases h; exact hQ
    · replace h := itn h c26
      exact j_Told_lay_64 hld hLd1 hQ  h
def J_Told_lay_19 (Ld1 : Nat) (v2 : Int32) (v3 : Int32) (s0 : Int32) (M : gM) : Option (Int32 × gM) :=
  (if s0 ≤ 0 then J_Told_lay_38 Ld1 v2 s0 ((v3 - 1) - 6) M else J_Told_lay_38 Ld1 v2 s0 (v3 - 1) M)
set_option maxHeartbeats 4000000 in
set_option maxRecDepth 20000 in
theorem j_Told_lay_19 {l : Launch} {ld : Nat} {Q : Option Value → gM → gL → gR → Prop} (hld : isLa ld) {Ld1 : Nat} (hLd1 : isLa Ld1) {q : Int32 × gM} {M : gM} {L : gL} (hQ : Q (some (.int q.1)) q.2 L (rf ld))  {v2 : Int32} {v3 : Int32} {s0 : Int32}  (h : J_Told_lay_19 Ld1 v2 v3 s0 M = some q) : Wp l y_Told_lay (0, 0, 447) 447 0 0 19 [(0, .ref 383), (1, .ref Ld1), (2, .int v2), (3, .int v3)] [.int s0] M L (rf ld) Q := by
  unfold J_Told_lay_19 at h
  refine g_istore (pc1 := 21) (lv' := [(0, .ref 383), (1, .ref Ld1), (2, .int v2), (3, .int v3), (4, .int s0)]) d_Told_lay_19 rfl (by decide) [1, 2, 3, 4, 0] rfl ?_
  refine g_iload (pc1 := 23) d_Told_lay_21 rfl 4 rfl ?_
  refine g_if_le (pc1 := 26) (tgt := 32) d_Told_lay_23 (by decide) rfl (fun c3 => ?_) (fun c3 => ?_)
  · replace h := itp h c3
    refine g_iload_n (pc1 := 33) d_Told_lay_32 rfl 3 rfl ?_
    refine g_iconst (pc1 := 34) (v := 1) d_Told_lay_33 rfl (by decide) ?_
    refine g_isub (pc1 := 35) d_Told_lay_34 rfl ?_
    refine g_bipush (pc1 := 37) (v := 6) d_Told_lay_35 rfl (by decide) ?_
    refine g_isub (pc1 := 38) d_Told_lay_37 rfl ?_
    refine Wp.loc (lv' := [(0, .ref 383), (1, .ref Ld1), (2, .int v2), (4, .int s0)]) [0, 1, 2, 4] rfl ?_
    exact j_Told_lay_38 hld hLd1 hQ  h
  · replace h := itn h c3
    refine g_iload_n (pc1 := 27) d_Told_lay_26 rfl 3 rfl ?_
    refine g_iconst (pc1 := 28) (v := 1) d_Told_lay_27 rfl (by decide) ?_
    refine g_isub (pc1 := 29) d_Told_lay_28 rfl ?_
    refine g_goto (tgt := 38) d_Told_lay_29 (by decide) ?_
    refine Wp.loc (lv' := [(0, .ref 383), (1, .ref Ld1), (2, .int v2), (4, .int s0)]) [0, 1, 2, 4] rfl ?_
    exact j_Told_lay_38 hld hLd1 hQ  h
def F_Told_lay (Ld1 : Nat) (p2 : Int32) (p3 : Int32) (M : gM) : Option (Int32 × gM) :=
  (if p3 = 0 then J_Told_lay_19 Ld1 p2 p3 0 M else (if 6 < p3 then J_Told_lay_19 Ld1 p2 p3 (-1) M else J_Told_lay_19 Ld1 p2 p3 1 M))
set_option maxHeartbeats 4000000 in
set_option maxRecDepth 20000 in
theorem f_Told_lay {l : Launch} {ld : Nat} {M : gM} {L : gL} {Q : Option Value → gM → gL → gR → Prop} (hld : isLa ld) {Ld1 : Nat} {p2 : Int32} {p3 : Int32} (hLd1 : isLa Ld1) {q : Int32 × gM} (h : F_Told_lay Ld1 p2 p3 M = some q) (hQ : Q (some (.int q.1)) q.2 L (rf ld)) : Tm l y_Told_lay (0, 0, 447) 447 [.ref 383, .ref Ld1, .int p2, .int p3] M L (rf ld) Q := by
  refine Tm.of (by decide) (Nat.le_of_ble_eq_true rfl) ?_
  show Wp l y_Told_lay (0, 0, 447) 447 0 0 0 [(0, .ref 383), (1, .ref Ld1), (2, .int p2), (3, .int p3)] [] M L (rf ld) Q
  unfold F_Told_lay at h
  refine g_iload_n (pc1 := 1) d_Told_lay_0 rfl 3 rfl ?_
  refine g_if_ne (pc1 := 4) (tgt := 8) d_Told_lay_1 (by decide) rfl (fun c1 => ?_) (fun c1 => ?_)
  · replace h := itn h c1
    refine g_iload_n (pc1 := 9) d_Told_lay_8 rfl 3 rfl ?_
    refine g_bipush (pc1 := 11) (v := 6) d_Told_lay_9 rfl (by decide) ?_
    refine g_icmp_gt (pc1 := 14) (tgt := 18) d_Told_lay_11 (by decide) rfl (fun c2 => ?_) (fun c2 => ?_)
    · replace h := itp h c2
      refine g_iconst (pc1 := 19) (v := (-1)) d_Told_lay_18 rfl (by decide) ?_
      exact j_Told_lay_19 hld hLd1 hQ  h
    · replace h := itn h c2
      refine g_iconst (pc1 := 15) (v := 1) d_Told_lay_14 rfl (by decide) ?_
      refine g_goto (tgt := 19) d_Told_lay_15 (by decide) ?_
      exact j_Told_lay_19 hld hLd1 hQ  h
  · replace h := itp h c1
    refine g_iconst (pc1 := 5) (v := 0) d_Told_lay_4 rfl (by decide) ?_
    refine g_goto (tgt := 19) d_Told_lay_5 (by decide) ?_
    exact j_Told_lay_19 hld hLd1 hQ  h

def F_Main_boundIn (ld : Nat) (p1 : Int32) (p2 : Int32) (p3 : Int32) (M : gM) : Option (Int32 × gM) :=
  bI (F_Main_isOne p1 (M ld 2)) (fun r2 => (if r2 = 0 then some ((-1), M) else bI (F_Main_isOne p2 3) (fun r5 => (if r5 = 0 then some ((-1), M) else (if p3 < 0 then some ((-1), M) else (if p3 ≤ 60 then bI2 (F_State_boundOf 64 ld p1 p2 p3 M) (fun r10 M11 => some (r10, M11)) else some ((-1), M)))))))
set_option maxHeartbeats 4000000 in
set_option maxRecDepth 20000 in
theorem f_Main_boundIn {l : Launch} {ld : Nat} {M : gM} {L : gL} {Q : Option Value → gM → gL → gR → Prop} (hld : isLa ld) {p1 : Int32} {p2 : Int32} {p3 : Int32}  {q : Int32 × gM} (h : F_Main_boundIn ld p1 p2 p3 M = some q) (hQ : Q (some (.int q.1)) q.2 L (rf ld)) : Tm l y_Main_boundIn (0, 0, 447) 447 [.ref 0, .int p1, .int p2, .int p3] M L (rf ld) Q := by
  refine Tm.of (by decide) (Nat.le_of_ble_eq_true rfl) ?_
  show Wp l y_Main_boundIn (0, 0, 447) 447 0 0 0 [(0, .ref 0), (1, .int p1), (2, .int p2), (3, .int p3)] [] M L (rf ld) Q
  unfold F_Main_boundIn at h
  refine g_iload_n (pc1 := 1) d_Main_boundIn_0 rfl 1 rfl ?_
  refine g_aload_n (pc1 := 2) d_Main_boundIn_1 rfl 0 rfl ?_
  refine g_getr (pc1 := 5) d_Main_boundIn_2 rfl ⟨_, fo_Main_26⟩ sh_0 (by decide) (rf_0_2 ld) ?_
  refine g_geti (pc1 := 8) d_Main_boundIn_5 rfl ⟨_, fo_Main_157⟩ (shLa_0 hld) (ltLa_0 hld) ?_
  refine g_callS0 (pc1 := 11) (As := [.int p1, .int (M ld 2)]) (rest := []) d_Main_boundIn_8 rfl mo_Main_112 ms_Main_isOne (by decide) rfl rfl (Nat.le_of_ble_eq_true rfl) ?_
  obtain ⟨r2, hq1, h⟩ := bnd h
  refine f_Main_isOne hld  hq1 ?_
  dsimp only [psh]
  refine g_if_eq (pc1 := 14) (tgt := 32) d_Main_boundIn_11 (by decide) rfl (fun c3 => ?_) (fun c3 => ?_)
  · replace h := itp h c3
    refine g_iconst (pc1 := 33) (v := (-1)) d_Main_boundIn_32 rfl (by decide) ?_
    refine g_ireturn (Or.inl rfl) d_Main_boundIn_33 rfl ?_
    cases h; exact hQ
  · replace h := itn h c3
    refine g_iload_n (pc1 := 15) d_Main_boundIn_14 rfl 2 rfl ?_
    refine g_iconst (pc1 := 16) (v := 3) d_Main_boundIn_15 rfl (by decide) ?_
    refine g_callS0 (pc1 := 19) (As := [.int p2, .int 3]) (rest := []) d_Main_boundIn_16 rfl mo_Main_112 ms_Main_isOne (by decide) rfl rfl (Nat.le_of_ble_eq_true rfl) ?_
    obtain ⟨r5, hq4, h⟩ := bnd h
    refine f_Main_isOne hld  hq4 ?_
    dsimp only [psh]
    refine g_if_eq (pc1 := 22) (tgt := 32) d_Main_boundIn_19 (by decide) rfl (fun c6 => ?_) (fun c6 => ?_)
    · replace h := itp h c6
      refine g_iconst (pc1 := 33) (v := (-1)) d_Main_boundIn_32 rfl (by decide) ?_
      refine g_ireturn (Or.inl rfl) d_Main_boundIn_33 rfl ?_
      cases h; exact hQ
    · replace h := itn h c6
      refine g_iload_n (pc1 := 23) d_Main_boundIn_22 rfl 3 rfl ?_
      refine g_if_lt (pc1 := 26) (tgt := 32) d_Main_boundIn_23 (by decide) rfl (fun c7 => ?_) (fun c7 => ?_)
      · replace h := itp h c7
        refine g_iconst (pc1 := 33) (v := (-1)) d_Main_boundIn_32 rfl (by decide) ?_
        refine g_ireturn (Or.inl rfl) d_Main_boundIn_33 rfl ?_
        cases h; exact hQ
      · replace h := itn h c7
        refine g_iload_n (pc1 := 27) d_Main_boundIn_26 rfl 3 rfl ?_
        refine g_bipush (pc1 := 29) (v := 60) d_Main_boundIn_27 rfl (by decide) ?_
        refine g_icmp_le (pc1 := 32) (tgt := 34) d_Main_boundIn_29 (by decide) rfl (fun c8 => ?_) (fun c8 => ?_)
        · replace h := itp h c8
          refine g_aload_n (pc1 := 35) d_Main_boundIn_34 rfl 0 rfl ?_
          refine g_getr (pc1 := 38) d_Main_boundIn_35 rfl ⟨_, fo_Main_36⟩ sh_0 (by decide) (rf_0_4 ld) ?_
          refine g_aload_n (pc1 := 39) d_Main_boundIn_38 rfl 0 rfl ?_
          refine g_getr (pc1 := 42) d_Main_boundIn_39 rfl ⟨_, fo_Main_26⟩ sh_0 (by decide) (rf_0_2 ld) ?_
          refine g_iload_n (pc1 := 43) d_Main_boundIn_42 rfl 1 rfl ?_
          refine g_iload_n (pc1 := 44) d_Main_boundIn_43 rfl 2 rfl ?_
          refine g_iload_n (pc1 := 45) d_Main_boundIn_44 rfl 3 rfl ?_
          refine g_callV0 (pc1 := 48) (As := [.ref ld, .int p1, .int p2, .int p3]) (rest := []) d_Main_boundIn_45 rfl mo_Main_173 mi_State_boundOf mv_State_boundOf rfl (shSt_0 isSt_64) (ltSt_0 isSt_64) (by decide) rfl rfl (Nat.le_of_ble_eq_true rfl) ?_
          obtain ⟨r10, M11, hq9, h⟩ := bnd2 h
          refine f_State_boundOf hld isSt_64 hld hq9 ?_
          dsimp only [psh]
          refine g_ireturn (Or.inl rfl) d_Main_boundIn_48 rfl ?_
          cases h; exact hQ
        · replace h := itn h c8
          refine g_iconst (pc1 := 33) (v := (-1)) d_Main_boundIn_32 rfl (by decide) ?_
          refine g_ireturn (Or.inl rfl) d_Main_boundIn_33 rfl ?_
          cases h; exact hQ

def B_Main_changeBy_5 (ld : Nat) (v1 : Int32) (v2 : Int32) (K5 : Int32 → Int32 → gM → Option (Int32 × gM)) : Int32 → Int32 → gM → Option (Int32 × gM) := fun v3 v4 M =>
  (if 3 ≤ v4 then some (v3, M) else bI2 (F_Land_dishForce ld v1 v2 v4 (M 64 0) M) (fun r3 M4 => bI2 (F_Land_dishForce ld v1 (-2) v4 (M4 64 0) M4) (fun r6 M7 => nmI (v3 + (if 0 ≤ (r3 - r6) then (r3 - r6) else 0 - (r3 - r6))) (fun x8 => nmI (v4 + 1) (fun x9 => K5 x8 x9 M7)))))
def H_Main_changeBy_5 (ld : Nat) (v1 : Int32) (v2 : Int32) : Nat → Int32 → Int32 → gM → Option (Int32 × gM) := lpK (B_Main_changeBy_5 ld v1 v2) (fun _ _ _ => none)
set_option maxHeartbeats 4000000 in
set_option maxRecDepth 20000 in
theorem h_Main_changeBy_5 {l : Launch} {ld : Nat} {Q : Option Value → gM → gL → gR → Prop} (hld : isLa ld)   {q : Int32 × gM} {L : gL} (hQ : Q (some (.int q.1)) q.2 L (rf ld))  {v1 : Int32} {v2 : Int32}  : ∀ (f : Nat) (v3 : Int32) (v4 : Int32) (M : gM), H_Main_changeBy_5 ld v1 v2 f v3 v4 M = some q → Wp l y_Main_changeBy (0, 0, 447) 447 0 0 5 [(0, .ref 0), (1, .int v1), (2, .int v2), (3, .int v3), (4, .int v4)] [] M L (rf ld) Q := by
  intro f
  induction f with
  | zero => intro v3 v4 M h; cases h
  | succ f hK5 =>
    intro v3 v4 M h
    replace h : B_Main_changeBy_5 ld v1 v2 (H_Main_changeBy_5 ld v1 v2 f) v3 v4 M = some q := h
    unfold B_Main_changeBy_5 at h
    refine g_iload (pc1 := 7) d_Main_changeBy_5 rfl 4 rfl ?_
    refine g_iconst (pc1 := 8) (v := 3) d_Main_changeBy_7 rfl (by decide) ?_
    refine g_icmp_ge (pc1 := 11) (tgt := 69) d_Main_changeBy_8 (by decide) rfl (fun c1 => ?_) (fun c1 => ?_)
    · replace h := itp h c1
      refine g_iload_n (pc1 := 70) d_Main_changeBy_69 rfl 3 rfl ?_
      refine g_ireturn (Or.inl rfl) d_Main_changeBy_70 rfl ?_
      cases h; exact hQ
    · replace h := itn h c1
      refine g_aload_n (pc1 := 12) d_Main_changeBy_11 rfl 0 rfl ?_
      refine g_getr (pc1 := 15) d_Main_changeBy_12 rfl ⟨_, fo_Main_26⟩ sh_0 (by decide) (rf_0_2 ld) ?_
      refine g_iload_n (pc1 := 16) d_Main_changeBy_15 rfl 1 rfl ?_
      refine g_iload_n (pc1 := 17) d_Main_changeBy_16 rfl 2 rfl ?_
      refine g_iload (pc1 := 19) d_Main_changeBy_17 rfl 4 rfl ?_
      refine g_aload_n (pc1 := 20) d_Main_changeBy_19 rfl 0 rfl ?_
      refine g_getr (pc1 := 23) d_Main_changeBy_20 rfl ⟨_, fo_Main_36⟩ sh_0 (by decide) (rf_0_4 ld) ?_
      refine g_geti (pc1 := 26) d_Main_changeBy_23 rfl ⟨_, fo_Main_144⟩ (shSt_0 isSt_64) (ltSt_0 isSt_64) ?_
      refine g_callV0 (pc1 := 29) (As := [.int v1, .int v2, .int v4, .int (M 64 0)]) (rest := []) d_Main_changeBy_26 rfl mo_Main_147 mi_Land_dishForce mv_Land_dishForce rfl (shLa_0 hld) (ltLa_0 hld) (by decide) rfl rfl (Nat.le_of_ble_eq_true rfl) ?_
      obtain ⟨r3, M4, hq2, h⟩ := bnd2 h
      refine f_Land_dishForce hld hld hq2 ?_
      dsimp only [psh]
      refine g_istore (pc1 := 31) (lv' := [(0, .ref 0), (1, .int v1), (2, .int v2), (3, .int v3), (4, .int v4), (5, .int r3)]) d_Main_changeBy_29 rfl (by decide) [1, 2, 3, 4, 5, 0] rfl ?_
      refine g_aload_n (pc1 := 32) d_Main_changeBy_31 rfl 0 rfl ?_
      refine g_getr (pc1 := 35) d_Main_changeBy_32 rfl ⟨_, fo_Main_26⟩ sh_0 (by decide) (rf_0_2 ld) ?_
      refine g_iload_n (pc1 := 36) d_Main_changeBy_35 rfl 1 rfl ?_
      refine g_bipush (pc1 := 38) (v := (-2)) d_Main_changeBy_36 rfl (by decide) ?_
      refine g_iload (pc1 := 40) d_Main_changeBy_38 rfl 4 rfl ?_
      refine g_aload_n (pc1 := 41) d_Main_changeBy_40 rfl 0 rfl ?_
      refine g_getr (pc1 := 44) d_Main_changeBy_41 rfl ⟨_, fo_Main_36⟩ sh_0 (by decide) (rf_0_4 ld) ?_
      refine g_geti (pc1 := 47) d_Main_changeBy_44 rfl ⟨_, fo_Main_144⟩ (shSt_0 isSt_64) (ltSt_0 isSt_64) ?_
      refine g_callV0 (pc1 := 50) (As := [.int v1, .int (-2), .int v4, .int (M4 64 0)]) (rest := []) d_Main_changeBy_47 rfl mo_Main_147 mi_Land_dishForce mv_Land_dishForce rfl (shLa_0 hld) (ltLa_0 hld) (by decide) rfl rfl (Nat.le_of_ble_eq_true rfl) ?_
      obtain ⟨r6, M7, hq5, h⟩ := bnd2 h
      refine f_Land_dishForce hld hld hq5 ?_
      dsimp only [psh]
      refine g_istore (pc1 := 52) (lv' := [(0, .ref 0), (1, .int v1), (2, .int v2), (3, .int v3), (4, .int v4), (5, .int r3), (6, .int r6)]) d_Main_changeBy_50 rfl (by decide) [1, 2, 3, 4, 5, 6, 0] rfl ?_
      refine g_iload_n (pc1 := 53) d_Main_changeBy_52 rfl 3 rfl ?_
      refine g_iload (pc1 := 55) d_Main_changeBy_53 rfl 5 rfl ?_
      refine g_iload (pc1 := 57) d_Main_changeBy_55 rfl 6 rfl ?_
      refine g_isub (pc1 := 58) d_Main_changeBy_57 rfl ?_
      refine g_mabs (pc1 := 61) d_Main_changeBy_58 rfl mm_Main_238 (by decide) ⟨Nat.le_refl 0, Nat.le_refl 0⟩ (Nat.le_of_ble_eq_true rfl) ?_
      refine g_iadd (pc1 := 62) d_Main_changeBy_61 rfl ?_
      refine Wp.lI h (fun x8 h => ?_)
      refine g_istore_n (pc1 := 63) (lv' := [(0, .ref 0), (1, .int v1), (2, .int v2), (3, .int x8), (4, .int v4), (5, .int r3), (6, .int r6)]) d_Main_changeBy_62 rfl rfl (by decide) [1, 2, 3, 0, 4, 5, 6] rfl ?_
      obtain ⟨x9, ex9, h⟩ := ltI h
      refine g_iinc (pc1 := 66) (v := x9) (lv' := [(0, .ref 0), (1, .int v1), (2, .int v2), (3, .int x8), (4, .int x9), (5, .int r3), (6, .int r6)]) d_Main_changeBy_63 rfl 4 rfl (by rw [ex9]; rfl) (by decide) [1, 2, 3, 4, 0, 5, 6] rfl ?_
      refine g_goto (tgt := 5) d_Main_changeBy_66 (by decide) ?_
      refine Wp.loc (lv' := [(0, .ref 0), (1, .int v1), (2, .int v2), (3, .int x8), (4, .int x9)]) [0, 1, 2, 3, 4] rfl ?_
      exact hK5 x8 x9 M7 h
def F_Main_changeBy (ld : Nat) (p1 : Int32) (p2 : Int32) (M : gM) : Option (Int32 × gM) :=
  H_Main_changeBy_5 ld p1 p2 FU 0 0 M
set_option maxHeartbeats 4000000 in
set_option maxRecDepth 20000 in
theorem f_Main_changeBy {l : Launch} {ld : Nat} {M : gM} {L : gL} {Q : Option Value → gM → gL → gR → Prop} (hld : isLa ld) {p1 : Int32} {p2 : Int32}  {q : Int32 × gM} (h : F_Main_changeBy ld p1 p2 M = some q) (hQ : Q (some (.int q.1)) q.2 L (rf ld)) : Tm l y_Main_changeBy (0, 0, 447) 447 [.ref 0, .int p1, .int p2] M L (rf ld) Q := by
  refine Tm.of (by decide) (Nat.le_of_ble_eq_true rfl) ?_
  show Wp l y_Main_changeBy (0, 0, 447) 447 0 0 0 [(0, .ref 0), (1, .int p1), (2, .int p2)] [] M L (rf ld) Q
  unfold F_Main_changeBy at h
  refine g_iconst (pc1 := 1) (v := 0) d_Main_changeBy_0 rfl (by decide) ?_
  refine g_istore_n (pc1 := 2) (lv' := [(0, .ref 0), (1, .int p1), (2, .int p2), (3, .int 0)]) d_Main_changeBy_1 rfl rfl (by decide) [1, 2, 3, 0] rfl ?_
  refine g_iconst (pc1 := 3) (v := 0) d_Main_changeBy_2 rfl (by decide) ?_
  refine g_istore (pc1 := 5) (lv' := [(0, .ref 0), (1, .int p1), (2, .int p2), (3, .int 0), (4, .int 0)]) d_Main_changeBy_3 rfl (by decide) [1, 2, 3, 4, 0] rfl ?_
  exact h_Main_changeBy_5 hld  hQ  _ 0 0 M h

def F_Main_days (ld : Nat) (p1 : Int32) (M : gM) : Option (Int32 × gM) :=
  (if p1 < 0 then some ((-1), M) else (if p1 ≤ 60 then (if p1 ≤ 0 then some ((M 64 0), M) else bI (F_Past_keep 64 M) (fun M5 => bI (F_State_passDays 64 ld p1 M5) (fun M7 => some ((M7 64 0), M7)))) else some ((-1), M)))
set_option maxHeartbeats 4000000 in
set_option maxRecDepth 20000 in
theorem f_Main_days {l : Launch} {ld : Nat} {M : gM} {L : gL} {Q : Option Value → gM → gL → gR → Prop} (hld : isLa ld) {p1 : Int32}  {q : Int32 × gM} (h : F_Main_days ld p1 M = some q) (hQ : Q (some (.int q.1)) q.2 L (rf ld)) : Tm l y_Main_days (0, 0, 447) 447 [.ref 0, .int p1] M L (rf ld) Q := by
  refine Tm.of (by decide) (Nat.le_of_ble_eq_true rfl) ?_
  show Wp l y_Main_days (0, 0, 447) 447 0 0 0 [(0, .ref 0), (1, .int p1)] [] M L (rf ld) Q
  unfold F_Main_days at h
  refine g_iload_n (pc1 := 1) d_Main_days_0 rfl 1 rfl ?_
  refine g_if_lt (pc1 := 4) (tgt := 10) d_Main_days_1 (by decide) rfl (fun c1 => ?_) (fun c1 => ?_)
  · replace h := itp h c1
    refine g_iconst (pc1 := 11) (v := (-1)) d_Main_days_10 rfl (by decide) ?_
    refine g_ireturn (Or.inl rfl) d_Main_days_11 rfl ?_
    cases h; exact hQ
  · replace h := itn h c1
    refine g_iload_n (pc1 := 5) d_Main_days_4 rfl 1 rfl ?_
    refine g_bipush (pc1 := 7) (v := 60) d_Main_days_5 rfl (by decide) ?_
    refine g_icmp_le (pc1 := 10) (tgt := 12) d_Main_days_7 (by decide) rfl (fun c2 => ?_) (fun c2 => ?_)
    · replace h := itp h c2
      refine g_iload_n (pc1 := 13) d_Main_days_12 rfl 1 rfl ?_
      refine g_if_le (pc1 := 16) (tgt := 39) d_Main_days_13 (by decide) rfl (fun c3 => ?_) (fun c3 => ?_)
      · replace h := itp h c3
        refine g_aload_n (pc1 := 40) d_Main_days_39 rfl 0 rfl ?_
        refine g_getr (pc1 := 43) d_Main_days_40 rfl ⟨_, fo_Main_36⟩ sh_0 (by decide) (rf_0_4 ld) ?_
        refine g_geti (pc1 := 46) d_Main_days_43 rfl ⟨_, fo_Main_144⟩ (shSt_0 isSt_64) (ltSt_0 isSt_64) ?_
        refine g_ireturn (Or.inl rfl) d_Main_days_46 rfl ?_
        cases h; exact hQ
      · replace h := itn h c3
        refine g_aload_n (pc1 := 17) d_Main_days_16 rfl 0 rfl ?_
        refine g_getr (pc1 := 20) d_Main_days_17 rfl ⟨_, fo_Main_46⟩ sh_0 (by decide) (rf_0_6 ld) ?_
        refine g_aload_n (pc1 := 21) d_Main_days_20 rfl 0 rfl ?_
        refine g_getr (pc1 := 24) d_Main_days_21 rfl ⟨_, fo_Main_36⟩ sh_0 (by decide) (rf_0_4 ld) ?_
        refine g_callV0 (pc1 := 27) (As := [.ref 64]) (rest := []) d_Main_days_24 rfl mo_Main_200 mi_Past_keep mv_Past_keep rfl sh_78 (by decide) (by decide) rfl rfl (Nat.le_of_ble_eq_true rfl) ?_
        obtain ⟨M5, hq4, h⟩ := bnd h
        refine f_Past_keep hld isSt_64 hq4 ?_
        dsimp only [psh]
        refine g_aload_n (pc1 := 28) d_Main_days_27 rfl 0 rfl ?_
        refine g_getr (pc1 := 31) d_Main_days_28 rfl ⟨_, fo_Main_36⟩ sh_0 (by decide) (rf_0_4 ld) ?_
        refine g_aload_n (pc1 := 32) d_Main_days_31 rfl 0 rfl ?_
        refine g_getr (pc1 := 35) d_Main_days_32 rfl ⟨_, fo_Main_26⟩ sh_0 (by decide) (rf_0_2 ld) ?_
        refine g_iload_n (pc1 := 36) d_Main_days_35 rfl 1 rfl ?_
        refine g_callV0 (pc1 := 39) (As := [.ref ld, .int p1]) (rest := []) d_Main_days_36 rfl mo_Main_214 mi_State_passDays mv_State_passDays rfl (shSt_0 isSt_64) (ltSt_0 isSt_64) (by decide) rfl rfl (Nat.le_of_ble_eq_true rfl) ?_
        obtain ⟨M7, hq6, h⟩ := bnd h
        refine f_State_passDays hld isSt_64 hld hq6 ?_
        dsimp only [psh]
        refine g_aload_n (pc1 := 40) d_Main_days_39 rfl 0 rfl ?_
        refine g_getr (pc1 := 43) d_Main_days_40 rfl ⟨_, fo_Main_36⟩ sh_0 (by decide) (rf_0_4 ld) ?_
        refine g_geti (pc1 := 46) d_Main_days_43 rfl ⟨_, fo_Main_144⟩ (shSt_0 isSt_64) (ltSt_0 isSt_64) ?_
        refine g_ireturn (Or.inl rfl) d_Main_days_46 rfl ?_
        cases h; exact hQ
    · replace h := itn h c2
      refine g_iconst (pc1 := 11) (v := (-1)) d_Main_days_10 rfl (by decide) ?_
      refine g_ireturn (Or.inl rfl) d_Main_days_11 rfl ?_
      cases h; exact hQ

def F_Main_dish (ld : Nat) (p1 : Int32) (p2 : Int32) (M : gM) : Option (Int32 × gM) :=
  bI (F_Main_isOne p1 (M ld 1)) (fun r2 => (if r2 = 0 then some ((-1), M) else (if p2 = 0 then bI (F_Main_at (ld + 4) 5 p1 M) (fun r6 => some (r6, M)) else (if p2 = 1 then bI (F_Land_manyIn ld p1 M) (fun r9 => some (r9, M)) else (if p2 = 2 then bI (F_Land_priceOf ld p1 M) (fun r12 => some (r12, M)) else (if p2 = 3 then bI2 (F_Land_dishForce ld p1 (-2) (p2 - 3) (M 64 0) M) (fun r15 M16 => some (r15, M16)) else (if p2 = 4 then bI2 (F_Land_dishForce ld p1 (-2) (p2 - 3) (M 64 0) M) (fun r19 M20 => some (r19, M20)) else (if p2 = 5 then bI2 (F_Land_dishForce ld p1 (-2) (p2 - 3) (M 64 0) M) (fun r23 M24 => some (r23, M24)) else (if p2 = 6 then bI (F_Main_at (64 + 3) 5 p1 M) (fun r27 => some (r27, M)) else some ((-1), M))))))))))
set_option maxHeartbeats 4000000 in
set_option maxRecDepth 20000 in
theorem f_Main_dish {l : Launch} {ld : Nat} {M : gM} {L : gL} {Q : Option Value → gM → gL → gR → Prop} (hld : isLa ld) {p1 : Int32} {p2 : Int32}  {q : Int32 × gM} (h : F_Main_dish ld p1 p2 M = some q) (hQ : Q (some (.int q.1)) q.2 L (rf ld)) : Tm l y_Main_dish (0, 0, 447) 447 [.ref 0, .int p1, .int p2] M L (rf ld) Q := by
  refine Tm.of (by decide) (Nat.le_of_ble_eq_true rfl) ?_
  show Wp l y_Main_dish (0, 0, 447) 447 0 0 0 [(0, .ref 0), (1, .int p1), (2, .int p2)] [] M L (rf ld) Q
  unfold F_Main_dish at h
  refine g_iload_n (pc1 := 1) d_Main_dish_0 rfl 1 rfl ?_
  refine g_aload_n (pc1 := 2) d_Main_dish_1 rfl 0 rfl ?_
  refine g_getr (pc1 := 5) d_Main_dish_2 rfl ⟨_, fo_Main_26⟩ sh_0 (by decide) (rf_0_2 ld) ?_
  refine g_geti (pc1 := 8) d_Main_dish_5 rfl ⟨_, fo_Main_131⟩ (shLa_0 hld) (ltLa_0 hld) ?_
  refine g_callS0 (pc1 := 11) (As := [.int p1, .int (M ld 1)]) (rest := []) d_Main_dish_8 rfl mo_Main_112 ms_Main_isOne (by decide) rfl rfl (Nat.le_of_ble_eq_true rfl) ?_
  obtain ⟨r2, hq1, h⟩ := bnd h
  refine f_Main_isOne hld  hq1 ?_
  dsimp only [psh]
  refine g_if_ne (pc1 := 14) (tgt := 16) d_Main_dish_11 (by decide) rfl (fun c3 => ?_) (fun c3 => ?_)
  · replace h := itn h c3
    refine g_iload_n (pc1 := 17) d_Main_dish_16 rfl 2 rfl ?_
    by_cases c4 : p2 = 0
    · replace h := itp h c4
      refine g_tabK (tgt := 60) (off := 43) d_Main_dish_17 c4 (by decide) (by decide) (by decide) (by decide) ?_
      refine g_aload_n (pc1 := 61) d_Main_dish_60 rfl 0 rfl ?_
      refine g_getr (pc1 := 64) d_Main_dish_61 rfl ⟨_, fo_Main_26⟩ sh_0 (by decide) (rf_0_2 ld) ?_
      refine g_getr (pc1 := 67) d_Main_dish_64 rfl ⟨_, fo_Main_134⟩ (shLa_0 hld) (ltLa_0 hld) (rfLa_8 ld hld) ?_
      refine g_iload_n (pc1 := 68) d_Main_dish_67 rfl 1 rfl ?_
      refine g_callS0 (pc1 := 71) (As := [.ref (ld + 4), .int p1]) (rest := []) d_Main_dish_68 rfl mo_Main_120 ms_Main_at (by decide) rfl rfl (Nat.le_of_ble_eq_true rfl) ?_
      obtain ⟨r6, hq5, h⟩ := bnd h
      refine f_Main_at hld (shLa_4 hld) (ltLa_4 hld) (by decide) hq5 ?_
      dsimp only [psh]
      refine g_ireturn (Or.inl rfl) d_Main_dish_71 rfl ?_
      cases h; exact hQ
    replace h := itn h c4
    by_cases c7 : p2 = 1
    · replace h := itp h c7
      refine g_tabK (tgt := 72) (off := 55) d_Main_dish_17 c7 (by decide) (by decide) (by decide) (by decide) ?_
      refine g_aload_n (pc1 := 73) d_Main_dish_72 rfl 0 rfl ?_
      refine g_getr (pc1 := 76) d_Main_dish_73 rfl ⟨_, fo_Main_26⟩ sh_0 (by decide) (rf_0_2 ld) ?_
      refine g_iload_n (pc1 := 77) d_Main_dish_76 rfl 1 rfl ?_
      refine g_callV0 (pc1 := 80) (As := [.int p1]) (rest := []) d_Main_dish_77 rfl mo_Main_137 mi_Land_manyIn mv_Land_manyIn rfl (shLa_0 hld) (ltLa_0 hld) (by decide) rfl rfl (Nat.le_of_ble_eq_true rfl) ?_
      obtain ⟨r9, hq8, h⟩ := bnd h
      refine f_Land_manyIn hld hld hq8 ?_
      dsimp only [psh]
      refine g_ireturn (Or.inl rfl) d_Main_dish_80 rfl ?_
      cases h; exact hQ
    replace h := itn h c7
    by_cases c10 : p2 = 2
    · replace h := itp h c10
      refine g_tabK (tgt := 81) (off := 64) d_Main_dish_17 c10 (by decide) (by decide) (by decide) (by decide) ?_
      refine g_aload_n (pc1 := 82) d_Main_dish_81 rfl 0 rfl ?_
      refine g_getr (pc1 := 85) d_Main_dish_82 rfl ⟨_, fo_Main_26⟩ sh_0 (by decide) (rf_0_2 ld) ?_
      refine g_iload_n (pc1 := 86) d_Main_dish_85 rfl 1 rfl ?_
      refine g_callV0 (pc1 := 89) (As := [.int p1]) (rest := []) d_Main_dish_86 rfl mo_Main_141 mi_Land_priceOf mv_Land_priceOf rfl (shLa_0 hld) (ltLa_0 hld) (by decide) rfl rfl (Nat.le_of_ble_eq_true rfl) ?_
      obtain ⟨r12, hq11, h⟩ := bnd h
      refine f_Land_priceOf hld hld hq11 ?_
      dsimp only [psh]
      refine g_ireturn (Or.inl rfl) d_Main_dish_89 rfl ?_
      cases h; exact hQ
    replace h := itn h c10
    by_cases c13 : p2 = 3
    · replace h := itp h c13
      refine g_tabK (tgt := 90) (off := 73) d_Main_dish_17 c13 (by decide) (by decide) (by decide) (by decide) ?_
      refine g_aload_n (pc1 := 91) d_Main_dish_90 rfl 0 rfl ?_
      refine g_getr (pc1 := 94) d_Main_dish_91 rfl ⟨_, fo_Main_26⟩ sh_0 (by decide) (rf_0_2 ld) ?_
      refine g_iload_n (pc1 := 95) d_Main_dish_94 rfl 1 rfl ?_
      refine g_bipush (pc1 := 97) (v := (-2)) d_Main_dish_95 rfl (by decide) ?_
      refine g_iload_n (pc1 := 98) d_Main_dish_97 rfl 2 rfl ?_
      refine g_iconst (pc1 := 99) (v := 3) d_Main_dish_98 rfl (by decide) ?_
      refine g_isub (pc1 := 100) d_Main_dish_99 rfl ?_
      refine g_aload_n (pc1 := 101) d_Main_dish_100 rfl 0 rfl ?_
      refine g_getr (pc1 := 104) d_Main_dish_101 rfl ⟨_, fo_Main_36⟩ sh_0 (by decide) (rf_0_4 ld) ?_
      refine g_geti (pc1 := 107) d_Main_dish_104 rfl ⟨_, fo_Main_144⟩ (shSt_0 isSt_64) (ltSt_0 isSt_64) ?_
      refine g_callV0 (pc1 := 110) (As := [.int p1, .int (-2), .int (p2 - 3), .int (M 64 0)]) (rest := []) d_Main_dish_107 rfl mo_Main_147 mi_Land_dishForce mv_Land_dishForce rfl (shLa_0 hld) (ltLa_0 hld) (by decide) rfl rfl (Nat.le_of_ble_eq_true rfl) ?_
      obtain ⟨r15, M16, hq14, h⟩ := bnd2 h
      refine f_Land_dishForce hld hld hq14 ?_
      dsimp only [psh]
      refine g_ireturn (Or.inl rfl) d_Main_dish_110 rfl ?_
      cases h; exact hQ
    replace h := itn h c13
    by_cases c17 : p2 = 4
    · replace h := itp h c17
      refine g_tabK (tgt := 90) (off := 73) d_Main_dish_17 c17 (by decide) (by decide) (by decide) (by decide) ?_
      refine g_aload_n (pc1 := 91) d_Main_dish_90 rfl 0 rfl ?_
      refine g_getr (pc1 := 94) d_Main_dish_91 rfl ⟨_, fo_Main_26⟩ sh_0 (by decide) (rf_0_2 ld) ?_
      refine g_iload_n (pc1 := 95) d_Main_dish_94 rfl 1 rfl ?_
      refine g_bipush (pc1 := 97) (v := (-2)) d_Main_dish_95 rfl (by decide) ?_
      refine g_iload_n (pc1 := 98) d_Main_dish_97 rfl 2 rfl ?_
      refine g_iconst (pc1 := 99) (v := 3) d_Main_dish_98 rfl (by decide) ?_
      refine g_isub (pc1 := 100) d_Main_dish_99 rfl ?_
      refine g_aload_n (pc1 := 101) d_Main_dish_100 rfl 0 rfl ?_
      refine g_getr (pc1 := 104) d_Main_dish_101 rfl ⟨_, fo_Main_36⟩ sh_0 (by decide) (rf_0_4 ld) ?_
      refine g_geti (pc1 := 107) d_Main_dish_104 rfl ⟨_, fo_Main_144⟩ (shSt_0 isSt_64) (ltSt_0 isSt_64) ?_
      refine g_callV0 (pc1 := 110) (As := [.int p1, .int (-2), .int (p2 - 3), .int (M 64 0)]) (rest := []) d_Main_dish_107 rfl mo_Main_147 mi_Land_dishForce mv_Land_dishForce rfl (shLa_0 hld) (ltLa_0 hld) (by decide) rfl rfl (Nat.le_of_ble_eq_true rfl) ?_
      obtain ⟨r19, M20, hq18, h⟩ := bnd2 h
      refine f_Land_dishForce hld hld hq18 ?_
      dsimp only [psh]
      refine g_ireturn (Or.inl rfl) d_Main_dish_110 rfl ?_
      cases h; exact hQ
    replace h := itn h c17
    by_cases c21 : p2 = 5
    · replace h := itp h c21
      refine g_tabK (tgt := 90) (off := 73) d_Main_dish_17 c21 (by decide) (by decide) (by decide) (by decide) ?_
      refine g_aload_n (pc1 := 91) d_Main_dish_90 rfl 0 rfl ?_
      refine g_getr (pc1 := 94) d_Main_dish_91 rfl ⟨_, fo_Main_26⟩ sh_0 (by decide) (rf_0_2 ld) ?_
      refine g_iload_n (pc1 := 95) d_Main_dish_94 rfl 1 rfl ?_
      refine g_bipush (pc1 := 97) (v := (-2)) d_Main_dish_95 rfl (by decide) ?_
      refine g_iload_n (pc1 := 98) d_Main_dish_97 rfl 2 rfl ?_
      refine g_iconst (pc1 := 99) (v := 3) d_Main_dish_98 rfl (by decide) ?_
      refine g_isub (pc1 := 100) d_Main_dish_99 rfl ?_
      refine g_aload_n (pc1 := 101) d_Main_dish_100 rfl 0 rfl ?_
      refine g_getr (pc1 := 104) d_Main_dish_101 rfl ⟨_, fo_Main_36⟩ sh_0 (by decide) (rf_0_4 ld) ?_
      refine g_geti (pc1 := 107) d_Main_dish_104 rfl ⟨_, fo_Main_144⟩ (shSt_0 isSt_64) (ltSt_0 isSt_64) ?_
      refine g_callV0 (pc1 := 110) (As := [.int p1, .int (-2), .int (p2 - 3), .int (M 64 0)]) (rest := []) d_Main_dish_107 rfl mo_Main_147 mi_Land_dishForce mv_Land_dishForce rfl (shLa_0 hld) (ltLa_0 hld) (by decide) rfl rfl (Nat.le_of_ble_eq_true rfl) ?_
      obtain ⟨r23, M24, hq22, h⟩ := bnd2 h
      refine f_Land_dishForce hld hld hq22 ?_
      dsimp only [psh]
      refine g_ireturn (Or.inl rfl) d_Main_dish_110 rfl ?_
      cases h; exact hQ
    replace h := itn h c21
    by_cases c25 : p2 = 6
    · replace h := itp h c25
      refine g_tabK (tgt := 111) (off := 94) d_Main_dish_17 c25 (by decide) (by decide) (by decide) (by decide) ?_
      refine g_aload_n (pc1 := 112) d_Main_dish_111 rfl 0 rfl ?_
      refine g_getr (pc1 := 115) d_Main_dish_112 rfl ⟨_, fo_Main_36⟩ sh_0 (by decide) (rf_0_4 ld) ?_
      refine g_getr (pc1 := 118) d_Main_dish_115 rfl ⟨_, fo_Main_151⟩ (shSt_0 isSt_64) (ltSt_0 isSt_64) (rfSt_6 ld isSt_64) ?_
      refine g_iload_n (pc1 := 119) d_Main_dish_118 rfl 1 rfl ?_
      refine g_callS0 (pc1 := 122) (As := [.ref (64 + 3), .int p1]) (rest := []) d_Main_dish_119 rfl mo_Main_120 ms_Main_at (by decide) rfl rfl (Nat.le_of_ble_eq_true rfl) ?_
      obtain ⟨r27, hq26, h⟩ := bnd h
      refine f_Main_at hld (shSt_3 isSt_64) (ltSt_3 isSt_64) (by decide) hq26 ?_
      dsimp only [psh]
      refine g_ireturn (Or.inl rfl) d_Main_dish_122 rfl ?_
      cases h; exact hQ
    replace h := itn h c25
    refine g_tabOut (tgt := 123) d_Main_dish_17 (by
      have nc4 := neT (a := 0) c4 (by decide)
      have nc7 := neT (a := 1) c7 (by decide)
      have nc10 := neT (a := 2) c10 (by decide)
      have nc13 := neT (a := 3) c13 (by decide)
      have nc17 := neT (a := 4) c17 (by decide)
      have nc21 := neT (a := 5) c21 (by decide)
      have nc25 := neT (a := 6) c25 (by decide)
      omega) (by decide) ?_
    refine g_iconst (pc1 := 124) (v := (-1)) d_Main_dish_123 rfl (by decide) ?_
    refine g_ireturn (Or.inl rfl) d_Main_dish_124 rfl ?_
    cases h; exact hQ
  · replace h := itp h c3
    refine g_iconst (pc1 := 15) (v := (-1)) d_Main_dish_14 rfl (by decide) ?_
    refine g_ireturn (Or.inl rfl) d_Main_dish_15 rfl ?_
    cases h; exact hQ

def F_Main_guest (ld : Nat) (p1 : Int32) (p2 : Int32) (M : gM) : Option (Int32 × gM) :=
  bI (F_Main_isOne p1 (M ld 2)) (fun r2 => (if r2 = 0 then some ((-1), M) else (if p2 = 0 then bI (F_Main_at (ld + 6) 4 p1 M) (fun r6 => some (r6, M)) else (if p2 = 1 then bI (F_State_hasEaten 64 p1 M) (fun r9 => (if r9 = 0 then some ((-2), M) else bI (F_State_agoOf 64 p1 M) (fun r12 => some (r12, M)))) else (if p2 = 2 then bI (F_Main_at (64 + 4) 4 p1 M) (fun r15 => some (r15, M)) else (if p2 = 3 then bI2 (F_State_boundOf 64 ld p1 (p2 - 3) 0 M) (fun r18 M19 => some (r18, M19)) else (if p2 = 4 then bI2 (F_State_boundOf 64 ld p1 (p2 - 3) 0 M) (fun r22 M23 => some (r22, M23)) else (if p2 = 5 then bI2 (F_State_boundOf 64 ld p1 (p2 - 3) 0 M) (fun r26 M27 => some (r26, M27)) else some ((-1), M)))))))))
set_option maxHeartbeats 4000000 in
set_option maxRecDepth 20000 in
theorem f_Main_guest {l : Launch} {ld : Nat} {M : gM} {L : gL} {Q : Option Value → gM → gL → gR → Prop} (hld : isLa ld) {p1 : Int32} {p2 : Int32}  {q : Int32 × gM} (h : F_Main_guest ld p1 p2 M = some q) (hQ : Q (some (.int q.1)) q.2 L (rf ld)) : Tm l y_Main_guest (0, 0, 447) 447 [.ref 0, .int p1, .int p2] M L (rf ld) Q := by
  refine Tm.of (by decide) (Nat.le_of_ble_eq_true rfl) ?_
  show Wp l y_Main_guest (0, 0, 447) 447 0 0 0 [(0, .ref 0), (1, .int p1), (2, .int p2)] [] M L (rf ld) Q
  unfold F_Main_guest at h
  refine g_iload_n (pc1 := 1) d_Main_guest_0 rfl 1 rfl ?_
  refine g_aload_n (pc1 := 2) d_Main_guest_1 rfl 0 rfl ?_
  refine g_getr (pc1 := 5) d_Main_guest_2 rfl ⟨_, fo_Main_26⟩ sh_0 (by decide) (rf_0_2 ld) ?_
  refine g_geti (pc1 := 8) d_Main_guest_5 rfl ⟨_, fo_Main_157⟩ (shLa_0 hld) (ltLa_0 hld) ?_
  refine g_callS0 (pc1 := 11) (As := [.int p1, .int (M ld 2)]) (rest := []) d_Main_guest_8 rfl mo_Main_112 ms_Main_isOne (by decide) rfl rfl (Nat.le_of_ble_eq_true rfl) ?_
  obtain ⟨r2, hq1, h⟩ := bnd h
  refine f_Main_isOne hld  hq1 ?_
  dsimp only [psh]
  refine g_if_ne (pc1 := 14) (tgt := 16) d_Main_guest_11 (by decide) rfl (fun c3 => ?_) (fun c3 => ?_)
  · replace h := itn h c3
    refine g_iload_n (pc1 := 17) d_Main_guest_16 rfl 2 rfl ?_
    by_cases c4 : p2 = 0
    · replace h := itp h c4
      refine g_tabK (tgt := 56) (off := 39) d_Main_guest_17 c4 (by decide) (by decide) (by decide) (by decide) ?_
      refine g_aload_n (pc1 := 57) d_Main_guest_56 rfl 0 rfl ?_
      refine g_getr (pc1 := 60) d_Main_guest_57 rfl ⟨_, fo_Main_26⟩ sh_0 (by decide) (rf_0_2 ld) ?_
      refine g_getr (pc1 := 63) d_Main_guest_60 rfl ⟨_, fo_Main_160⟩ (shLa_0 hld) (ltLa_0 hld) (rfLa_10 ld hld) ?_
      refine g_iload_n (pc1 := 64) d_Main_guest_63 rfl 1 rfl ?_
      refine g_callS0 (pc1 := 67) (As := [.ref (ld + 6), .int p1]) (rest := []) d_Main_guest_64 rfl mo_Main_120 ms_Main_at (by decide) rfl rfl (Nat.le_of_ble_eq_true rfl) ?_
      obtain ⟨r6, hq5, h⟩ := bnd h
      refine f_Main_at hld (shLa_6 hld) (ltLa_6 hld) (by decide) hq5 ?_
      dsimp only [psh]
      refine g_ireturn (Or.inl rfl) d_Main_guest_67 rfl ?_
      cases h; exact hQ
    replace h := itn h c4
    by_cases c7 : p2 = 1
    · replace h := itp h c7
      refine g_tabK (tgt := 68) (off := 51) d_Main_guest_17 c7 (by decide) (by decide) (by decide) (by decide) ?_
      refine g_aload_n (pc1 := 69) d_Main_guest_68 rfl 0 rfl ?_
      refine g_getr (pc1 := 72) d_Main_guest_69 rfl ⟨_, fo_Main_36⟩ sh_0 (by decide) (rf_0_4 ld) ?_
      refine g_iload_n (pc1 := 73) d_Main_guest_72 rfl 1 rfl ?_
      refine g_callV0 (pc1 := 76) (As := [.int p1]) (rest := []) d_Main_guest_73 rfl mo_Main_163 mi_State_hasEaten mv_State_hasEaten rfl (shSt_0 isSt_64) (ltSt_0 isSt_64) (by decide) rfl rfl (Nat.le_of_ble_eq_true rfl) ?_
      obtain ⟨r9, hq8, h⟩ := bnd h
      refine f_State_hasEaten hld isSt_64 hq8 ?_
      dsimp only [psh]
      refine g_if_eq (pc1 := 79) (tgt := 90) d_Main_guest_76 (by decide) rfl (fun c10 => ?_) (fun c10 => ?_)
      · replace h := itp h c10
        refine g_bipush (pc1 := 92) (v := (-2)) d_Main_guest_90 rfl (by decide) ?_
        refine g_ireturn (Or.inl rfl) d_Main_guest_92 rfl ?_
        cases h; exact hQ
      · replace h := itn h c10
        refine g_aload_n (pc1 := 80) d_Main_guest_79 rfl 0 rfl ?_
        refine g_getr (pc1 := 83) d_Main_guest_80 rfl ⟨_, fo_Main_36⟩ sh_0 (by decide) (rf_0_4 ld) ?_
        refine g_iload_n (pc1 := 84) d_Main_guest_83 rfl 1 rfl ?_
        refine g_callV0 (pc1 := 87) (As := [.int p1]) (rest := []) d_Main_guest_84 rfl mo_Main_167 mi_State_agoOf mv_State_agoOf rfl (shSt_0 isSt_64) (ltSt_0 isSt_64) (by decide) rfl rfl (Nat.le_of_ble_eq_true rfl) ?_
        obtain ⟨r12, hq11, h⟩ := bnd h
        refine f_State_agoOf hld isSt_64 hq11 ?_
        dsimp only [psh]
        refine g_goto (tgt := 92) d_Main_guest_87 (by decide) ?_
        refine g_ireturn (Or.inl rfl) d_Main_guest_92 rfl ?_
        cases h; exact hQ
    replace h := itn h c7
    by_cases c13 : p2 = 2
    · replace h := itp h c13
      refine g_tabK (tgt := 93) (off := 76) d_Main_guest_17 c13 (by decide) (by decide) (by decide) (by decide) ?_
      refine g_aload_n (pc1 := 94) d_Main_guest_93 rfl 0 rfl ?_
      refine g_getr (pc1 := 97) d_Main_guest_94 rfl ⟨_, fo_Main_36⟩ sh_0 (by decide) (rf_0_4 ld) ?_
      refine g_getr (pc1 := 100) d_Main_guest_97 rfl ⟨_, fo_Main_170⟩ (shSt_0 isSt_64) (ltSt_0 isSt_64) (rfSt_7 ld isSt_64) ?_
      refine g_iload_n (pc1 := 101) d_Main_guest_100 rfl 1 rfl ?_
      refine g_callS0 (pc1 := 104) (As := [.ref (64 + 4), .int p1]) (rest := []) d_Main_guest_101 rfl mo_Main_120 ms_Main_at (by decide) rfl rfl (Nat.le_of_ble_eq_true rfl) ?_
      obtain ⟨r15, hq14, h⟩ := bnd h
      refine f_Main_at hld (shSt_4 isSt_64) (ltSt_4 isSt_64) (by decide) hq14 ?_
      dsimp only [psh]
      refine g_ireturn (Or.inl rfl) d_Main_guest_104 rfl ?_
      cases h; exact hQ
    replace h := itn h c13
    by_cases c16 : p2 = 3
    · replace h := itp h c16
      refine g_tabK (tgt := 105) (off := 88) d_Main_guest_17 c16 (by decide) (by decide) (by decide) (by decide) ?_
      refine g_aload_n (pc1 := 106) d_Main_guest_105 rfl 0 rfl ?_
      refine g_getr (pc1 := 109) d_Main_guest_106 rfl ⟨_, fo_Main_36⟩ sh_0 (by decide) (rf_0_4 ld) ?_
      refine g_aload_n (pc1 := 110) d_Main_guest_109 rfl 0 rfl ?_
      refine g_getr (pc1 := 113) d_Main_guest_110 rfl ⟨_, fo_Main_26⟩ sh_0 (by decide) (rf_0_2 ld) ?_
      refine g_iload_n (pc1 := 114) d_Main_guest_113 rfl 1 rfl ?_
      refine g_iload_n (pc1 := 115) d_Main_guest_114 rfl 2 rfl ?_
      refine g_iconst (pc1 := 116) (v := 3) d_Main_guest_115 rfl (by decide) ?_
      refine g_isub (pc1 := 117) d_Main_guest_116 rfl ?_
      refine g_iconst (pc1 := 118) (v := 0) d_Main_guest_117 rfl (by decide) ?_
      refine g_callV0 (pc1 := 121) (As := [.ref ld, .int p1, .int (p2 - 3), .int 0]) (rest := []) d_Main_guest_118 rfl mo_Main_173 mi_State_boundOf mv_State_boundOf rfl (shSt_0 isSt_64) (ltSt_0 isSt_64) (by decide) rfl rfl (Nat.le_of_ble_eq_true rfl) ?_
      obtain ⟨r18, M19, hq17, h⟩ := bnd2 h
      refine f_State_boundOf hld isSt_64 hld hq17 ?_
      dsimp only [psh]
      refine g_ireturn (Or.inl rfl) d_Main_guest_121 rfl ?_
      cases h; exact hQ
    replace h := itn h c16
    by_cases c20 : p2 = 4
    · replace h := itp h c20
      refine g_tabK (tgt := 105) (off := 88) d_Main_guest_17 c20 (by decide) (by decide) (by decide) (by decide) ?_
      refine g_aload_n (pc1 := 106) d_Main_guest_105 rfl 0 rfl ?_
      refine g_getr (pc1 := 109) d_Main_guest_106 rfl ⟨_, fo_Main_36⟩ sh_0 (by decide) (rf_0_4 ld) ?_
      refine g_aload_n (pc1 := 110) d_Main_guest_109 rfl 0 rfl ?_
      refine g_getr (pc1 := 113) d_Main_guest_110 rfl ⟨_, fo_Main_26⟩ sh_0 (by decide) (rf_0_2 ld) ?_
      refine g_iload_n (pc1 := 114) d_Main_guest_113 rfl 1 rfl ?_
      refine g_iload_n (pc1 := 115) d_Main_guest_114 rfl 2 rfl ?_
      refine g_iconst (pc1 := 116) (v := 3) d_Main_guest_115 rfl (by decide) ?_
      refine g_isub (pc1 := 117) d_Main_guest_116 rfl ?_
      refine g_iconst (pc1 := 118) (v := 0) d_Main_guest_117 rfl (by decide) ?_
      refine g_callV0 (pc1 := 121) (As := [.ref ld, .int p1, .int (p2 - 3), .int 0]) (rest := []) d_Main_guest_118 rfl mo_Main_173 mi_State_boundOf mv_State_boundOf rfl (shSt_0 isSt_64) (ltSt_0 isSt_64) (by decide) rfl rfl (Nat.le_of_ble_eq_true rfl) ?_
      obtain ⟨r22, M23, hq21, h⟩ := bnd2 h
      refine f_State_boundOf hld isSt_64 hld hq21 ?_
      dsimp only [psh]
      refine g_ireturn (Or.inl rfl) d_Main_guest_121 rfl ?_
      cases h; exact hQ
    replace h := itn h c20
    by_cases c24 : p2 = 5
    · replace h := itp h c24
      refine g_tabK (tgt := 105) (off := 88) d_Main_guest_17 c24 (by decide) (by decide) (by decide) (by decide) ?_
      refine g_aload_n (pc1 := 106) d_Main_guest_105 rfl 0 rfl ?_
      refine g_getr (pc1 := 109) d_Main_guest_106 rfl ⟨_, fo_Main_36⟩ sh_0 (by decide) (rf_0_4 ld) ?_
      refine g_aload_n (pc1 := 110) d_Main_guest_109 rfl 0 rfl ?_
      refine g_getr (pc1 := 113) d_Main_guest_110 rfl ⟨_, fo_Main_26⟩ sh_0 (by decide) (rf_0_2 ld) ?_
      refine g_iload_n (pc1 := 114) d_Main_guest_113 rfl 1 rfl ?_
      refine g_iload_n (pc1 := 115) d_Main_guest_114 rfl 2 rfl ?_
      refine g_iconst (pc1 := 116) (v := 3) d_Main_guest_115 rfl (by decide) ?_
      refine g_isub (pc1 := 117) d_Main_guest_116 rfl ?_
      refine g_iconst (pc1 := 118) (v := 0) d_Main_guest_117 rfl (by decide) ?_
      refine g_callV0 (pc1 := 121) (As := [.ref ld, .int p1, .int (p2 - 3), .int 0]) (rest := []) d_Main_guest_118 rfl mo_Main_173 mi_State_boundOf mv_State_boundOf rfl (shSt_0 isSt_64) (ltSt_0 isSt_64) (by decide) rfl rfl (Nat.le_of_ble_eq_true rfl) ?_
      obtain ⟨r26, M27, hq25, h⟩ := bnd2 h
      refine f_State_boundOf hld isSt_64 hld hq25 ?_
      dsimp only [psh]
      refine g_ireturn (Or.inl rfl) d_Main_guest_121 rfl ?_
      cases h; exact hQ
    replace h := itn h c24
    refine g_tabOut (tgt := 122) d_Main_guest_17 (by
      have nc4 := neT (a := 0) c4 (by decide)
      have nc7 := neT (a := 1) c7 (by decide)
      have nc13 := neT (a := 2) c13 (by decide)
      have nc16 := neT (a := 3) c16 (by decide)
      have nc20 := neT (a := 4) c20 (by decide)
      have nc24 := neT (a := 5) c24 (by decide)
      omega) (by decide) ?_
    refine g_iconst (pc1 := 123) (v := (-1)) d_Main_guest_122 rfl (by decide) ?_
    refine g_ireturn (Or.inl rfl) d_Main_guest_123 rfl ?_
    cases h; exact hQ
  · replace h := itp h c3
    refine g_iconst (pc1 := 15) (v := (-1)) d_Main_guest_14 rfl (by decide) ?_
    refine g_ireturn (Or.inl rfl) d_Main_guest_15 rfl ?_
    cases h; exact hQ

def B_Main_hunger_45 (ld : Nat) (v1 : Int32) (v2 : Int32) (v3 : Int32) (K45 : Int32 → gM → Option (Int32 × gM)) : Int32 → gM → Option (Int32 × gM) := fun v4 M =>
  (if 99 < v4 then some ((-2), M) else bI2 (F_State_boundOf 64 ld v1 v3 v4 M) (fun r11 M12 => bI (F_Main_at (ld + 8) 6 v2 M12) (fun r14 => (if r14 ≤ r11 then nmI (v4 + 1) (fun x16 => K45 x16 M12) else some (v4, M12)))))
def H_Main_hunger_45 (ld : Nat) (v1 : Int32) (v2 : Int32) (v3 : Int32) : Nat → Int32 → gM → Option (Int32 × gM) := lpK (B_Main_hunger_45 ld v1 v2 v3) (fun _ _ => none)
set_option maxHeartbeats 4000000 in
set_option maxRecDepth 20000 in
theorem h_Main_hunger_45 {l : Launch} {ld : Nat} {Q : Option Value → gM → gL → gR → Prop} (hld : isLa ld)   {q : Int32 × gM} {L : gL} (hQ : Q (some (.int q.1)) q.2 L (rf ld))  {v1 : Int32} {v2 : Int32} {v3 : Int32}  : ∀ (f : Nat) (v4 : Int32) (M : gM), H_Main_hunger_45 ld v1 v2 v3 f v4 M = some q → Wp l y_Main_hunger (0, 0, 447) 447 0 0 45 [(0, .ref 0), (1, .int v1), (2, .int v2), (3, .int v3), (4, .int v4)] [] M L (rf ld) Q := by
  intro f
  induction f with
  | zero => intro v4 M h; cases h
  | succ f hK45 =>
    intro v4 M h
    replace h : B_Main_hunger_45 ld v1 v2 v3 (H_Main_hunger_45 ld v1 v2 v3 f) v4 M = some q := h
    unfold B_Main_hunger_45 at h
    refine g_iload (pc1 := 47) d_Main_hunger_45 rfl 4 rfl ?_
    refine g_bipush (pc1 := 49) (v := 99) d_Main_hunger_47 rfl (by decide) ?_
    refine g_icmp_gt (pc1 := 52) (tgt := 90) d_Main_hunger_49 (by decide) rfl (fun c9 => ?_) (fun c9 => ?_)
    · replace h := itp h c9
      refine g_bipush (pc1 := 92) (v := (-2)) d_Main_hunger_90 rfl (by decide) ?_
      refine g_ireturn (Or.inl rfl) d_Main_hunger_92 rfl ?_
      cases h; exact hQ
    · replace h := itn h c9
      refine g_aload_n (pc1 := 53) d_Main_hunger_52 rfl 0 rfl ?_
      refine g_getr (pc1 := 56) d_Main_hunger_53 rfl ⟨_, fo_Main_36⟩ sh_0 (by decide) (rf_0_4 ld) ?_
      refine g_aload_n (pc1 := 57) d_Main_hunger_56 rfl 0 rfl ?_
      refine g_getr (pc1 := 60) d_Main_hunger_57 rfl ⟨_, fo_Main_26⟩ sh_0 (by decide) (rf_0_2 ld) ?_
      refine g_iload_n (pc1 := 61) d_Main_hunger_60 rfl 1 rfl ?_
      refine g_iload_n (pc1 := 62) d_Main_hunger_61 rfl 3 rfl ?_
      refine g_iload (pc1 := 64) d_Main_hunger_62 rfl 4 rfl ?_
      refine g_callV0 (pc1 := 67) (As := [.ref ld, .int v1, .int v3, .int v4]) (rest := []) d_Main_hunger_64 rfl mo_Main_173 mi_State_boundOf mv_State_boundOf rfl (shSt_0 isSt_64) (ltSt_0 isSt_64) (by decide) rfl rfl (Nat.le_of_ble_eq_true rfl) ?_
      obtain ⟨r11, M12, hq10, h⟩ := bnd2 h
      refine f_State_boundOf hld isSt_64 hld hq10 ?_
      dsimp only [psh]
      refine g_aload_n (pc1 := 68) d_Main_hunger_67 rfl 0 rfl ?_
      refine g_getr (pc1 := 71) d_Main_hunger_68 rfl ⟨_, fo_Main_26⟩ sh_0 (by decide) (rf_0_2 ld) ?_
      refine g_getr (pc1 := 74) d_Main_hunger_71 rfl ⟨_, fo_Main_183⟩ (shLa_0 hld) (ltLa_0 hld) (rfLa_12 ld hld) ?_
      refine g_iload_n (pc1 := 75) d_Main_hunger_74 rfl 2 rfl ?_
      refine g_callS0 (pc1 := 78) (As := [.ref (ld + 8), .int v2]) (rest := [.int r11]) d_Main_hunger_75 rfl mo_Main_120 ms_Main_at (by decide) rfl rfl (Nat.le_of_ble_eq_true rfl) ?_
      obtain ⟨r14, hq13, h⟩ := bnd h
      refine f_Main_at hld (shLa_8 hld) (ltLa_8 hld) (by decide) hq13 ?_
      dsimp only [psh]
      refine g_icmp_ge (pc1 := 81) (tgt := 84) d_Main_hunger_78 (by decide) rfl (fun c15 => ?_) (fun c15 => ?_)
      · replace h := itp h c15
        obtain ⟨x16, ex16, h⟩ := ltI h
        refine g_iinc (pc1 := 87) (v := x16) (lv' := [(0, .ref 0), (1, .int v1), (2, .int v2), (3, .int v3), (4, .int x16)]) d_Main_hunger_84 rfl 4 rfl (by rw [ex16]; rfl) (by decide) [1, 2, 3, 4, 0] rfl ?_
        refine g_goto (tgt := 45) d_Main_hunger_87 (by decide) ?_
        exact hK45 x16 M12 h
      · replace h := itn h c15
        refine g_iload (pc1 := 83) d_Main_hunger_81 rfl 4 rfl ?_
        refine g_ireturn (Or.inl rfl) d_Main_hunger_83 rfl ?_
        cases h; exact hQ
def F_Main_hunger (ld : Nat) (p1 : Int32) (p2 : Int32) (M : gM) : Option (Int32 × gM) :=
  bI (F_Main_isOne p1 (M ld 2)) (fun r2 => (if r2 = 0 then some ((-1), M) else bI (F_Main_isOne p2 (M ld 3)) (fun r5 => (if r5 = 0 then some ((-1), M) else bI (F_Main_at (ld + 7) 6 p2 M) (fun r8 => H_Main_hunger_45 ld p1 p2 r8 FU 0 M)))))
set_option maxHeartbeats 4000000 in
set_option maxRecDepth 20000 in
theorem f_Main_hunger {l : Launch} {ld : Nat} {M : gM} {L : gL} {Q : Option Value → gM → gL → gR → Prop} (hld : isLa ld) {p1 : Int32} {p2 : Int32}  {q : Int32 × gM} (h : F_Main_hunger ld p1 p2 M = some q) (hQ : Q (some (.int q.1)) q.2 L (rf ld)) : Tm l y_Main_hunger (0, 0, 447) 447 [.ref 0, .int p1, .int p2] M L (rf ld) Q := by
  refine Tm.of (by decide) (Nat.le_of_ble_eq_true rfl) ?_
  show Wp l y_Main_hunger (0, 0, 447) 447 0 0 0 [(0, .ref 0), (1, .int p1), (2, .int p2)] [] M L (rf ld) Q
  unfold F_Main_hunger at h
  refine g_iload_n (pc1 := 1) d_Main_hunger_0 rfl 1 rfl ?_
  refine g_aload_n (pc1 := 2) d_Main_hunger_1 rfl 0 rfl ?_
  refine g_getr (pc1 := 5) d_Main_hunger_2 rfl ⟨_, fo_Main_26⟩ sh_0 (by decide) (rf_0_2 ld) ?_
  refine g_geti (pc1 := 8) d_Main_hunger_5 rfl ⟨_, fo_Main_157⟩ (shLa_0 hld) (ltLa_0 hld) ?_
  refine g_callS0 (pc1 := 11) (As := [.int p1, .int (M ld 2)]) (rest := []) d_Main_hunger_8 rfl mo_Main_112 ms_Main_isOne (by decide) rfl rfl (Nat.le_of_ble_eq_true rfl) ?_
  obtain ⟨r2, hq1, h⟩ := bnd h
  refine f_Main_isOne hld  hq1 ?_
  dsimp only [psh]
  refine g_if_eq (pc1 := 14) (tgt := 28) d_Main_hunger_11 (by decide) rfl (fun c3 => ?_) (fun c3 => ?_)
  · replace h := itp h c3
    refine g_iconst (pc1 := 29) (v := (-1)) d_Main_hunger_28 rfl (by decide) ?_
    refine g_ireturn (Or.inl rfl) d_Main_hunger_29 rfl ?_
    cases h; exact hQ
  · replace h := itn h c3
    refine g_iload_n (pc1 := 15) d_Main_hunger_14 rfl 2 rfl ?_
    refine g_aload_n (pc1 := 16) d_Main_hunger_15 rfl 0 rfl ?_
    refine g_getr (pc1 := 19) d_Main_hunger_16 rfl ⟨_, fo_Main_26⟩ sh_0 (by decide) (rf_0_2 ld) ?_
    refine g_geti (pc1 := 22) d_Main_hunger_19 rfl ⟨_, fo_Main_177⟩ (shLa_0 hld) (ltLa_0 hld) ?_
    refine g_callS0 (pc1 := 25) (As := [.int p2, .int (M ld 3)]) (rest := []) d_Main_hunger_22 rfl mo_Main_112 ms_Main_isOne (by decide) rfl rfl (Nat.le_of_ble_eq_true rfl) ?_
    obtain ⟨r5, hq4, h⟩ := bnd h
    refine f_Main_isOne hld  hq4 ?_
    dsimp only [psh]
    refine g_if_ne (pc1 := 28) (tgt := 30) d_Main_hunger_25 (by decide) rfl (fun c6 => ?_) (fun c6 => ?_)
    · replace h := itn h c6
      refine g_aload_n (pc1 := 31) d_Main_hunger_30 rfl 0 rfl ?_
      refine g_getr (pc1 := 34) d_Main_hunger_31 rfl ⟨_, fo_Main_26⟩ sh_0 (by decide) (rf_0_2 ld) ?_
      refine g_getr (pc1 := 37) d_Main_hunger_34 rfl ⟨_, fo_Main_180⟩ (shLa_0 hld) (ltLa_0 hld) (rfLa_11 ld hld) ?_
      refine g_iload_n (pc1 := 38) d_Main_hunger_37 rfl 2 rfl ?_
      refine g_callS0 (pc1 := 41) (As := [.ref (ld + 7), .int p2]) (rest := []) d_Main_hunger_38 rfl mo_Main_120 ms_Main_at (by decide) rfl rfl (Nat.le_of_ble_eq_true rfl) ?_
      obtain ⟨r8, hq7, h⟩ := bnd h
      refine f_Main_at hld (shLa_7 hld) (ltLa_7 hld) (by decide) hq7 ?_
      dsimp only [psh]
      refine g_istore_n (pc1 := 42) (lv' := [(0, .ref 0), (1, .int p1), (2, .int p2), (3, .int r8)]) d_Main_hunger_41 rfl rfl (by decide) [1, 2, 3, 0] rfl ?_
      refine g_iconst (pc1 := 43) (v := 0) d_Main_hunger_42 rfl (by decide) ?_
      refine g_istore (pc1 := 45) (lv' := [(0, .ref 0), (1, .int p1), (2, .int p2), (3, .int r8), (4, .int 0)]) d_Main_hunger_43 rfl (by decide) [1, 2, 3, 4, 0] rfl ?_
      exact h_Main_hunger_45 hld  hQ  _ 0 M h
    · replace h := itp h c6
      refine g_iconst (pc1 := 29) (v := (-1)) d_Main_hunger_28 rfl (by decide) ?_
      refine g_ireturn (Or.inl rfl) d_Main_hunger_29 rfl ?_
      cases h; exact hQ

def F_Main_stockIn (ld : Nat) (p1 : Int32) (p2 : Int32) (M : gM) : Option (Int32 × gM) :=
  bI (F_Main_isOne p1 (M ld 0)) (fun r2 => (if r2 = 0 then some ((-1), M) else (if p2 < 0 then some ((-1), M) else (if p2 ≤ 60 then bI (F_State_copyFrom 71 64 M) (fun M7 => bI (F_State_passDays 71 ld p2 M7) (fun M9 => bI (F_Main_at (71 + 2) 6 p1 M9) (fun r11 => some (r11, M9)))) else some ((-1), M)))))
set_option maxHeartbeats 4000000 in
set_option maxRecDepth 20000 in
theorem f_Main_stockIn {l : Launch} {ld : Nat} {M : gM} {L : gL} {Q : Option Value → gM → gL → gR → Prop} (hld : isLa ld) {p1 : Int32} {p2 : Int32}  {q : Int32 × gM} (h : F_Main_stockIn ld p1 p2 M = some q) (hQ : Q (some (.int q.1)) q.2 L (rf ld)) : Tm l y_Main_stockIn (0, 0, 447) 447 [.ref 0, .int p1, .int p2] M L (rf ld) Q := by
  refine Tm.of (by decide) (Nat.le_of_ble_eq_true rfl) ?_
  show Wp l y_Main_stockIn (0, 0, 447) 447 0 0 0 [(0, .ref 0), (1, .int p1), (2, .int p2)] [] M L (rf ld) Q
  unfold F_Main_stockIn at h
  refine g_iload_n (pc1 := 1) d_Main_stockIn_0 rfl 1 rfl ?_
  refine g_aload_n (pc1 := 2) d_Main_stockIn_1 rfl 0 rfl ?_
  refine g_getr (pc1 := 5) d_Main_stockIn_2 rfl ⟨_, fo_Main_26⟩ sh_0 (by decide) (rf_0_2 ld) ?_
  refine g_geti (pc1 := 8) d_Main_stockIn_5 rfl ⟨_, fo_Main_109⟩ (shLa_0 hld) (ltLa_0 hld) ?_
  refine g_callS0 (pc1 := 11) (As := [.int p1, .int (M ld 0)]) (rest := []) d_Main_stockIn_8 rfl mo_Main_112 ms_Main_isOne (by decide) rfl rfl (Nat.le_of_ble_eq_true rfl) ?_
  obtain ⟨r2, hq1, h⟩ := bnd h
  refine f_Main_isOne hld  hq1 ?_
  dsimp only [psh]
  refine g_if_eq (pc1 := 14) (tgt := 24) d_Main_stockIn_11 (by decide) rfl (fun c3 => ?_) (fun c3 => ?_)
  · replace h := itp h c3
    refine g_iconst (pc1 := 25) (v := (-1)) d_Main_stockIn_24 rfl (by decide) ?_
    refine g_ireturn (Or.inl rfl) d_Main_stockIn_25 rfl ?_
    cases h; exact hQ
  · replace h := itn h c3
    refine g_iload_n (pc1 := 15) d_Main_stockIn_14 rfl 2 rfl ?_
    refine g_if_lt (pc1 := 18) (tgt := 24) d_Main_stockIn_15 (by decide) rfl (fun c4 => ?_) (fun c4 => ?_)
    · replace h := itp h c4
      refine g_iconst (pc1 := 25) (v := (-1)) d_Main_stockIn_24 rfl (by decide) ?_
      refine g_ireturn (Or.inl rfl) d_Main_stockIn_25 rfl ?_
      cases h; exact hQ
    · replace h := itn h c4
      refine g_iload_n (pc1 := 19) d_Main_stockIn_18 rfl 2 rfl ?_
      refine g_bipush (pc1 := 21) (v := 60) d_Main_stockIn_19 rfl (by decide) ?_
      refine g_icmp_le (pc1 := 24) (tgt := 26) d_Main_stockIn_21 (by decide) rfl (fun c5 => ?_) (fun c5 => ?_)
      · replace h := itp h c5
        refine g_aload_n (pc1 := 27) d_Main_stockIn_26 rfl 0 rfl ?_
        refine g_getr (pc1 := 30) d_Main_stockIn_27 rfl ⟨_, fo_Main_40⟩ sh_0 (by decide) (rf_0_5 ld) ?_
        refine g_aload_n (pc1 := 31) d_Main_stockIn_30 rfl 0 rfl ?_
        refine g_getr (pc1 := 34) d_Main_stockIn_31 rfl ⟨_, fo_Main_36⟩ sh_0 (by decide) (rf_0_4 ld) ?_
        refine g_callV0 (pc1 := 37) (As := [.ref 64]) (rest := []) d_Main_stockIn_34 rfl mo_Main_262 mi_State_copyFrom mv_State_copyFrom rfl (shSt_0 isSt_71) (ltSt_0 isSt_71) (by decide) rfl rfl (Nat.le_of_ble_eq_true rfl) ?_
        obtain ⟨M7, hq6, h⟩ := bnd h
        refine f_State_copyFrom hld isSt_71 isSt_64 hq6 ?_
        dsimp only [psh]
        refine g_aload_n (pc1 := 38) d_Main_stockIn_37 rfl 0 rfl ?_
        refine g_getr (pc1 := 41) d_Main_stockIn_38 rfl ⟨_, fo_Main_40⟩ sh_0 (by decide) (rf_0_5 ld) ?_
        refine g_aload_n (pc1 := 42) d_Main_stockIn_41 rfl 0 rfl ?_
        refine g_getr (pc1 := 45) d_Main_stockIn_42 rfl ⟨_, fo_Main_26⟩ sh_0 (by decide) (rf_0_2 ld) ?_
        refine g_iload_n (pc1 := 46) d_Main_stockIn_45 rfl 2 rfl ?_
        refine g_callV0 (pc1 := 49) (As := [.ref ld, .int p2]) (rest := []) d_Main_stockIn_46 rfl mo_Main_214 mi_State_passDays mv_State_passDays rfl (shSt_0 isSt_71) (ltSt_0 isSt_71) (by decide) rfl rfl (Nat.le_of_ble_eq_true rfl) ?_
        obtain ⟨M9, hq8, h⟩ := bnd h
        refine f_State_passDays hld isSt_71 hld hq8 ?_
        dsimp only [psh]
        refine g_aload_n (pc1 := 50) d_Main_stockIn_49 rfl 0 rfl ?_
        refine g_getr (pc1 := 53) d_Main_stockIn_50 rfl ⟨_, fo_Main_40⟩ sh_0 (by decide) (rf_0_5 ld) ?_
        refine g_getr (pc1 := 56) d_Main_stockIn_53 rfl ⟨_, fo_Main_116⟩ (shSt_0 isSt_71) (ltSt_0 isSt_71) (rfSt_5 ld isSt_71) ?_
        refine g_iload_n (pc1 := 57) d_Main_stockIn_56 rfl 1 rfl ?_
        refine g_callS0 (pc1 := 60) (As := [.ref (71 + 2), .int p1]) (rest := []) d_Main_stockIn_57 rfl mo_Main_120 ms_Main_at (by decide) rfl rfl (Nat.le_of_ble_eq_true rfl) ?_
        obtain ⟨r11, hq10, h⟩ := bnd h
        refine f_Main_at hld (shSt_2 isSt_71) (ltSt_2 isSt_71) (by decide) hq10 ?_
        dsimp only [psh]
        refine g_ireturn (Or.inl rfl) d_Main_stockIn_60 rfl ?_
        cases h; exact hQ
      · replace h := itn h c5
        refine g_iconst (pc1 := 25) (v := (-1)) d_Main_stockIn_24 rfl (by decide) ?_
        refine g_ireturn (Or.inl rfl) d_Main_stockIn_25 rfl ?_
        cases h; exact hQ

def B_Land_freeByDish_40 (Ld0 : Nat) (v1 : Int32) (v3 : Int32) (v4 : Int32) (K40 : Int32 → Int32 → gM → Option (Int32 × gM)) : Int32 → Int32 → gM → Option (Int32 × gM) := fun v5 v6 M =>
  (if 3 ≤ v6 then some (v5, M) else bI (F_Main_at (Ld0 + 25) 3 v6 M) (fun r4 => bI2 (F_Land_boundBy Ld0 v1 v6 r4 v4 (v3 + v4) M) (fun r6 M7 => bI (F_Land_freeUnder Ld0 v6 r6 M7) (fun r9 => nmI (v5 ||| r9) (fun x10 => nmI (v6 + 1) (fun x11 => K40 x10 x11 M7))))))
def H_Land_freeByDish_40 (Ld0 : Nat) (v1 : Int32) (v3 : Int32) (v4 : Int32) : Nat → Int32 → Int32 → gM → Option (Int32 × gM) := lpK (B_Land_freeByDish_40 Ld0 v1 v3 v4) (fun _ _ _ => none)
set_option maxHeartbeats 4000000 in
set_option maxRecDepth 20000 in
theorem h_Land_freeByDish_40 {l : Launch} {ld : Nat} {Q : Option Value → gM → gL → gR → Prop} (hld : isLa ld) {Ld0 : Nat} (hLd0 : isLa Ld0) {q : Int32 × gM} {L : gL} (hQ : Q (some (.int q.1)) q.2 L (rf ld))  {v1 : Int32} {v3 : Int32} {v4 : Int32}  : ∀ (f : Nat) (v5 : Int32) (v6 : Int32) (M : gM), H_Land_freeByDish_40 Ld0 v1 v3 v4 f v5 v6 M = some q → Wp l y_Land_freeByDish (0, 0, 447) 447 0 0 40 [(0, .ref Ld0), (1, .int v1), (3, .int v3), (4, .int v4), (5, .int v5), (6, .int v6)] [] M L (rf ld) Q := by
  intro f
  induction f with
  | zero => intro v5 v6 M h; cases h
  | succ f hK40 =>
    intro v5 v6 M h
    replace h : B_Land_freeByDish_40 Ld0 v1 v3 v4 (H_Land_freeByDish_40 Ld0 v1 v3 v4 f) v5 v6 M = some q := h
    unfold B_Land_freeByDish_40 at h
    refine g_iload (pc1 := 42) d_Land_freeByDish_40 rfl 5 rfl ?_
    refine g_iconst (pc1 := 43) (v := 3) d_Land_freeByDish_42 rfl (by decide) ?_
    refine g_icmp_ge (pc1 := 46) (tgt := 85) d_Land_freeByDish_43 (by decide) rfl (fun c2 => ?_) (fun c2 => ?_)
    · replace h := itp h c2
      refine g_iload (pc1 := 87) d_Land_freeByDish_85 rfl 4 rfl ?_
      refine g_ireturn (Or.inl rfl) d_Land_freeByDish_87 rfl ?_
      cases h; exact hQ
    · replace h := itn h c2
      refine g_iload (pc1 := 48) d_Land_freeByDish_46 rfl 4 rfl ?_
      refine g_aload_n (pc1 := 49) d_Land_freeByDish_48 rfl 0 rfl ?_
      refine g_iload (pc1 := 51) d_Land_freeByDish_49 rfl 5 rfl ?_
      refine g_aload_n (pc1 := 52) d_Land_freeByDish_51 rfl 0 rfl ?_
      refine g_iload_n (pc1 := 53) d_Land_freeByDish_52 rfl 1 rfl ?_
      refine g_iload (pc1 := 55) d_Land_freeByDish_53 rfl 5 rfl ?_
      refine g_aload_n (pc1 := 56) d_Land_freeByDish_55 rfl 0 rfl ?_
      refine g_getr (pc1 := 59) d_Land_freeByDish_56 rfl ⟨_, fo_Land_52⟩ (shLa_0 hLd0) (ltLa_0 hLd0) (rfLa_17 ld hLd0) ?_
      refine g_iload (pc1 := 61) d_Land_freeByDish_59 rfl 5 rfl ?_
      refine g_callS0 (pc1 := 64) (As := [.ref (Ld0 + 25), .int v6]) (rest := [.int v6, .int v1, .ref Ld0, .int v6, .ref Ld0, .int v5]) d_Land_freeByDish_61 rfl mo_Land_78 ms_Main_at (by decide) rfl rfl (Nat.le_of_ble_eq_true rfl) ?_
      obtain ⟨r4, hq3, h⟩ := bnd h
      refine f_Main_at hld (shLa_25 hLd0) (ltLa_25 hLd0) (by decide) hq3 ?_
      dsimp only [psh]
      refine g_iload (pc1 := 66) d_Land_freeByDish_64 rfl 3 rfl ?_
      refine g_iload_n (pc1 := 67) d_Land_freeByDish_66 rfl 2 rfl ?_
      refine g_iload (pc1 := 69) d_Land_freeByDish_67 rfl 3 rfl ?_
      refine g_iadd (pc1 := 70) d_Land_freeByDish_69 rfl ?_
      refine g_callV0 (pc1 := 73) (As := [.int v1, .int v6, .int r4, .int v4, .int (v3 + v4)]) (rest := [.int v6, .ref Ld0, .int v5]) d_Land_freeByDish_70 rfl mo_Land_124 mi_Land_boundBy mv_Land_boundBy rfl (shLa_0 hLd0) (ltLa_0 hLd0) (by decide) rfl rfl (Nat.le_of_ble_eq_true rfl) ?_
      obtain ⟨r6, M7, hq5, h⟩ := bnd2 h
      refine f_Land_boundBy hld hLd0 hq5 ?_
      dsimp only [psh]
      refine g_callV0 (pc1 := 76) (As := [.int v6, .int r6]) (rest := [.int v5]) d_Land_freeByDish_73 rfl mo_Land_127 mi_Land_freeUnder mv_Land_freeUnder rfl (shLa_0 hLd0) (ltLa_0 hLd0) (by decide) rfl rfl (Nat.le_of_ble_eq_true rfl) ?_
      obtain ⟨r9, hq8, h⟩ := bnd h
      refine f_Land_freeUnder hld hLd0 hq8 ?_
      dsimp only [psh]
      refine g_ior (pc1 := 77) d_Land_freeByDish_76 rfl ?_
      refine Wp.lI h (fun x10 h => ?_)
      refine g_istore (pc1 := 79) (lv' := [(0, .ref Ld0), (1, .int v1), (3, .int v3), (4, .int v4), (5, .int x10), (6, .int v6)]) d_Land_freeByDish_77 rfl (by decide) [1, 2, 3, 4, 0, 5] rfl ?_
      obtain ⟨x11, ex11, h⟩ := ltI h
      refine g_iinc (pc1 := 82) (v := x11) (lv' := [(0, .ref Ld0), (1, .int v1), (3, .int v3), (4, .int v4), (5, .int x10), (6, .int x11)]) d_Land_freeByDish_79 rfl 5 rfl (by rw [ex11]; rfl) (by decide) [1, 2, 3, 4, 5, 0] rfl ?_
      refine g_goto (tgt := 40) d_Land_freeByDish_82 (by decide) ?_
      exact hK40 x10 x11 M7 h
def J_Land_freeByDish_34 (Ld0 : Nat) (v1 : Int32) (v3 : Int32) (v4 : Int32) (M : gM) : Option (Int32 × gM) :=
  H_Land_freeByDish_40 Ld0 v1 v3 v4 FU 0 0 M
set_option maxHeartbeats 4000000 in
set_option maxRecDepth 20000 in
theorem j_Land_freeByDish_34 {l : Launch} {ld : Nat} {Q : Option Value → gM → gL → gR → Prop} (hld : isLa ld) {Ld0 : Nat} (hLd0 : isLa Ld0) {q : Int32 × gM} {M : gM} {L : gL} (hQ : Q (some (.int q.1)) q.2 L (rf ld))  {v1 : Int32} {v3 : Int32} {v4 : Int32}  (h : J_Land_freeByDish_34 Ld0 v1 v3 v4 M = some q) : Wp l y_Land_freeByDish (0, 0, 447) 447 0 0 34 [(0, .ref Ld0), (1, .int v1), (3, .int v3), (4, .int v4)] [] M L (rf ld) Q := by
  unfold J_Land_freeByDish_34 at h
  refine g_iconst (pc1 := 35) (v := 0) d_Land_freeByDish_34 rfl (by decide) ?_
  refine g_istore (pc1 := 37) (lv' := [(0, .ref Ld0), (1, .int v1), (3, .int v3), (4, .int v4), (5, .int 0)]) d_Land_freeByDish_35 rfl (by decide) [1, 2, 3, 4, 0] rfl ?_
  refine g_iconst (pc1 := 38) (v := 0) d_Land_freeByDish_37 rfl (by decide) ?_
  refine g_istore (pc1 := 40) (lv' := [(0, .ref Ld0), (1, .int v1), (3, .int v3), (4, .int v4), (5, .int 0), (6, .int 0)]) d_Land_freeByDish_38 rfl (by decide) [1, 2, 3, 4, 5, 0] rfl ?_
  exact h_Land_freeByDish_40 hld hLd0 hQ  _ 0 0 M h
def B_Land_freeByDish_3 (Ld0 : Nat) (v1 : Int32) (v2 : Int32) (v3 : Int32) (v4 : Int32) (K3 : Int32 → gM → Option (Int32 × gM)) : Int32 → gM → Option (Int32 × gM) := fun v5 M =>
  (if 3 ≤ v5 then J_Land_freeByDish_34 Ld0 v1 v3 v4 M else bI2 (F_Land_dishForce Ld0 v2 (-2) v5 v3 M) (fun r13 M14 => bI (F_Main_put (Ld0 + 25) 3 v5 r13 M14) (fun M16 => nmI (v5 + 1) (fun x17 => K3 x17 M16))))
def H_Land_freeByDish_3 (Ld0 : Nat) (v1 : Int32) (v2 : Int32) (v3 : Int32) (v4 : Int32) : Nat → Int32 → gM → Option (Int32 × gM) := lpK (B_Land_freeByDish_3 Ld0 v1 v2 v3 v4) (fun _ _ => none)
set_option maxHeartbeats 4000000 in
set_option maxRecDepth 20000 in
theorem h_Land_freeByDish_3 {l : Launch} {ld : Nat} {Q : Option Value → gM → gL → gR → Prop} (hld : isLa ld) {Ld0 : Nat} (hLd0 : isLa Ld0) {q : Int32 × gM} {L : gL} (hQ : Q (some (.int q.1)) q.2 L (rf ld))  {v1 : Int32} {v2 : Int32} {v3 : Int32} {v4 : Int32}  : ∀ (f : Nat) (v5 : Int32) (M : gM), H_Land_freeByDish_3 Ld0 v1 v2 v3 v4 f v5 M = some q → Wp l y_Land_freeByDish (0, 0, 447) 447 0 0 3 [(0, .ref Ld0), (1, .int v1), (2, .int v2), (3, .int v3), (4, .int v4), (5, .int v5)] [] M L (rf ld) Q := by
  intro f
  induction f with
  | zero => intro v5 M h; cases h
  | succ f hK3 =>
    intro v5 M h
    replace h : B_Land_freeByDish_3 Ld0 v1 v2 v3 v4 (H_Land_freeByDish_3 Ld0 v1 v2 v3 v4 f) v5 M = some q := h
    unfold B_Land_freeByDish_3 at h
    refine g_iload (pc1 := 5) d_Land_freeByDish_3 rfl 5 rfl ?_
    refine g_iconst (pc1 := 6) (v := 3) d_Land_freeByDish_5 rfl (by decide) ?_
    refine g_icmp_ge (pc1 := 9) (tgt := 34) d_Land_freeByDish_6 (by decide) rfl (fun c1 => ?_) (fun c1 => ?_)
    · replace h := itp h c1
      refine Wp.loc (lv' := [(0, .ref Ld0), (1, .int v1), (3, .int v3), (4, .int v4)]) [0, 1, 3, 4] rfl ?_
      exact j_Land_freeByDish_34 hld hLd0 hQ  h
    · replace h := itn h c1
      refine g_aload_n (pc1 := 10) d_Land_freeByDish_9 rfl 0 rfl ?_
      refine g_getr (pc1 := 13) d_Land_freeByDish_10 rfl ⟨_, fo_Land_52⟩ (shLa_0 hLd0) (ltLa_0 hLd0) (rfLa_17 ld hLd0) ?_
      refine g_iload (pc1 := 15) d_Land_freeByDish_13 rfl 5 rfl ?_
      refine g_aload_n (pc1 := 16) d_Land_freeByDish_15 rfl 0 rfl ?_
      refine g_iload_n (pc1 := 17) d_Land_freeByDish_16 rfl 2 rfl ?_
      refine g_bipush (pc1 := 19) (v := (-2)) d_Land_freeByDish_17 rfl (by decide) ?_
      refine g_iload (pc1 := 21) d_Land_freeByDish_19 rfl 5 rfl ?_
      refine g_iload_n (pc1 := 22) d_Land_freeByDish_21 rfl 3 rfl ?_
      refine g_callV0 (pc1 := 25) (As := [.int v2, .int (-2), .int v5, .int v3]) (rest := [.int v5, .ref (Ld0 + 25)]) d_Land_freeByDish_22 rfl mo_Land_116 mi_Land_dishForce mv_Land_dishForce rfl (shLa_0 hLd0) (ltLa_0 hLd0) (by decide) rfl rfl (Nat.le_of_ble_eq_true rfl) ?_
      obtain ⟨r13, M14, hq12, h⟩ := bnd2 h
      refine f_Land_dishForce hld hLd0 hq12 ?_
      dsimp only [psh]
      refine g_callS0 (pc1 := 28) (As := [.ref (Ld0 + 25), .int v5, .int r13]) (rest := []) d_Land_freeByDish_25 rfl mo_Land_120 ms_Main_put (by decide) rfl rfl (Nat.le_of_ble_eq_true rfl) ?_
      obtain ⟨M16, hq15, h⟩ := bnd h
      refine f_Main_put hld (shLa_25 hLd0) (ltLa_25 hLd0) (by decide) hq15 ?_
      dsimp only [psh]
      obtain ⟨x17, ex17, h⟩ := ltI h
      refine g_iinc (pc1 := 31) (v := x17) (lv' := [(0, .ref Ld0), (1, .int v1), (2, .int v2), (3, .int v3), (4, .int v4), (5, .int x17)]) d_Land_freeByDish_28 rfl 5 rfl (by rw [ex17]; rfl) (by decide) [1, 2, 3, 4, 5, 0] rfl ?_
      refine g_goto (tgt := 3) d_Land_freeByDish_31 (by decide) ?_
      exact hK3 x17 M16 h
def F_Land_freeByDish (Ld0 : Nat) (p1 : Int32) (p2 : Int32) (p3 : Int32) (p4 : Int32) (M : gM) : Option (Int32 × gM) :=
  H_Land_freeByDish_3 Ld0 p1 p2 p3 p4 FU 0 M
set_option maxHeartbeats 4000000 in
set_option maxRecDepth 20000 in
theorem f_Land_freeByDish {l : Launch} {ld : Nat} {M : gM} {L : gL} {Q : Option Value → gM → gL → gR → Prop} (hld : isLa ld) {Ld0 : Nat} {p1 : Int32} {p2 : Int32} {p3 : Int32} {p4 : Int32} (hLd0 : isLa Ld0) {q : Int32 × gM} (h : F_Land_freeByDish Ld0 p1 p2 p3 p4 M = some q) (hQ : Q (some (.int q.1)) q.2 L (rf ld)) : Tm l y_Land_freeByDish (0, 0, 447) 447 [.ref Ld0, .int p1, .int p2, .int p3, .int p4] M L (rf ld) Q := by
  refine Tm.of (by decide) (Nat.le_of_ble_eq_true rfl) ?_
  show Wp l y_Land_freeByDish (0, 0, 447) 447 0 0 0 [(0, .ref Ld0), (1, .int p1), (2, .int p2), (3, .int p3), (4, .int p4)] [] M L (rf ld) Q
  unfold F_Land_freeByDish at h
  refine g_iconst (pc1 := 1) (v := 0) d_Land_freeByDish_0 rfl (by decide) ?_
  refine g_istore (pc1 := 3) (lv' := [(0, .ref Ld0), (1, .int p1), (2, .int p2), (3, .int p3), (4, .int p4), (5, .int 0)]) d_Land_freeByDish_1 rfl (by decide) [1, 2, 3, 4, 5, 0] rfl ?_
  exact h_Land_freeByDish_3 hld hLd0 hQ  _ 0 M h

def J_PotSearch_tryHeats_121 (Ld1 : Nat) (v5 : Int32) (M : gM) : Option (gM) :=
  nmM (uM M 391 9 1) (fun M10 => nmM (uM M10 391 6 (M10 391 4)) (fun M11 => nmM (uM M11 391 7 (M11 391 3)) (fun M12 => nmM (uM M12 391 8 v5) (fun M13 => bI (F_Main_copyRow 393 6 395 6 M13) (fun M15 => some M15)))))
set_option maxHeartbeats 4000000 in
set_option maxRecDepth 20000 in
theorem j_PotSearch_tryHeats_121 {l : Launch} {ld : Nat} {Q : Option Value → gM → gL → gR → Prop} (hld : isLa ld) {Ld1 : Nat} (hLd1 : isLa Ld1) {q : gM} {M : gM} {L : gL} (hQ : Q none q L (rf ld))  {v5 : Int32}  (h : J_PotSearch_tryHeats_121 Ld1 v5 M = some q) : Wp l y_PotSearch_tryHeats (0, 0, 447) 447 0 0 121 [(0, .ref 391), (5, .int v5)] [] M L (rf ld) Q := by
  unfold J_PotSearch_tryHeats_121 at h
  refine g_aload_n (pc1 := 122) d_PotSearch_tryHeats_121 rfl 0 rfl ?_
  refine g_iconst (pc1 := 123) (v := 1) d_PotSearch_tryHeats_122 rfl (by decide) ?_
  refine g_putz (pc1 := 126) d_PotSearch_tryHeats_123 rfl fo_PotSearch_28 po_10_9_1 rfl sh_391 (by decide) ?_
  refine Wp.lM h (fun M10 h => ?_)
  refine g_aload_n (pc1 := 127) d_PotSearch_tryHeats_126 rfl 0 rfl ?_
  refine g_aload_n (pc1 := 128) d_PotSearch_tryHeats_127 rfl 0 rfl ?_
  refine g_geti (pc1 := 131) d_PotSearch_tryHeats_128 rfl ⟨_, fo_PotSearch_89⟩ sh_391 (by decide) ?_
  refine g_puti (pc1 := 134) d_PotSearch_tryHeats_131 rfl fo_PotSearch_97 (po_10_6 _) sh_391 (by decide) ?_
  refine Wp.lM h (fun M11 h => ?_)
  refine g_aload_n (pc1 := 135) d_PotSearch_tryHeats_134 rfl 0 rfl ?_
  refine g_aload_n (pc1 := 136) d_PotSearch_tryHeats_135 rfl 0 rfl ?_
  refine g_geti (pc1 := 139) d_PotSearch_tryHeats_136 rfl ⟨_, fo_PotSearch_56⟩ sh_391 (by decide) ?_
  refine g_puti (pc1 := 142) d_PotSearch_tryHeats_139 rfl fo_PotSearch_100 (po_10_7 _) sh_391 (by decide) ?_
  refine Wp.lM h (fun M12 h => ?_)
  refine g_aload_n (pc1 := 143) d_PotSearch_tryHeats_142 rfl 0 rfl ?_
  refine g_iload (pc1 := 145) d_PotSearch_tryHeats_143 rfl 1 rfl ?_
  refine g_puti (pc1 := 148) d_PotSearch_tryHeats_145 rfl fo_PotSearch_103 (po_10_8 _) sh_391 (by decide) ?_
  refine Wp.lM h (fun M13 h => ?_)
  refine g_aload_n (pc1 := 149) d_PotSearch_tryHeats_148 rfl 0 rfl ?_
  refine g_getr (pc1 := 152) d_PotSearch_tryHeats_149 rfl ⟨_, fo_PotSearch_15⟩ sh_391 (by decide) (rf_391_1 ld) ?_
  refine g_aload_n (pc1 := 153) d_PotSearch_tryHeats_152 rfl 0 rfl ?_
  refine g_getr (pc1 := 156) d_PotSearch_tryHeats_153 rfl ⟨_, fo_PotSearch_21⟩ sh_391 (by decide) (rf_391_5 ld) ?_
  refine g_callS0 (pc1 := 159) (As := [.ref 393, .ref 395]) (rest := []) d_PotSearch_tryHeats_156 rfl mo_PotSearch_110 ms_Main_copyRow (by decide) rfl rfl (Nat.le_of_ble_eq_true rfl) ?_
  obtain ⟨M15, hq14, h⟩ := bnd h
  refine f_Main_copyRow hld sh_393 (by decide) (by decide) sh_395 (by decide) (by decide) hq14 ?_
  dsimp only [psh]
  refine g_return rfl d_PotSearch_tryHeats_159 rfl ?_
  cases h; exact hQ
def B_PotSearch_tryHeats_103 (Ld1 : Nat) (v2 : Int32) (v4 : Int32) (K103 : Int32 → gM → Option (gM)) : Int32 → gM → Option (gM) := fun v5 M =>
  (if v4 ≤ v5 then some M else bI2 (F_PotSearch_isEnough Ld1 v5 v2 M) (fun r6 M7 => (if r6 = 0 then nmI (v5 + 1) (fun x9 => K103 x9 M7) else J_PotSearch_tryHeats_121 Ld1 v5 M7)))
def H_PotSearch_tryHeats_103 (Ld1 : Nat) (v2 : Int32) (v4 : Int32) : Nat → Int32 → gM → Option (gM) := lpK (B_PotSearch_tryHeats_103 Ld1 v2 v4) (fun _ _ => none)
set_option maxHeartbeats 4000000 in
set_option maxRecDepth 20000 in
theorem h_PotSearch_tryHeats_103 {l : Launch} {ld : Nat} {Q : Option Value → gM → gL → gR → Prop} (hld : isLa ld) {Ld1 : Nat} (hLd1 : isLa Ld1) {q : gM} {L : gL} (hQ : Q none q L (rf ld))  {v2 : Int32} {v4 : Int32}  : ∀ (f : Nat) (v5 : Int32) (M : gM), H_PotSearch_tryHeats_103 Ld1 v2 v4 f v5 M = some q → Wp l y_PotSearch_tryHeats (0, 0, 447) 447 0 0 103 [(0, .ref 391), (1, .ref Ld1), (2, .int v2), (4, .int v4), (5, .int v5)] [] M L (rf ld) Q := by
  intro f
  induction f with
  | zero => intro v5 M h; cases h
  | succ f hK103 =>
    intro v5 M h
    replace h : B_PotSearch_tryHeats_103 Ld1 v2 v4 (H_PotSearch_tryHeats_103 Ld1 v2 v4 f) v5 M = some q := h
    unfold B_PotSearch_tryHeats_103 at h
    refine g_iload (pc1 := 105) d_PotSearch_tryHeats_103 rfl 4 rfl ?_
    refine g_iload (pc1 := 107) d_PotSearch_tryHeats_105 rfl 3 rfl ?_
    refine g_icmp_ge (pc1 := 110) (tgt := 166) d_PotSearch_tryHeats_107 (by decide) rfl (fun c4 => ?_) (fun c4 => ?_)
    · replace h := itp h c4
      refine g_return rfl d_PotSearch_tryHeats_166 rfl ?_
      cases h; exact hQ
    · replace h := itn h c4
      refine g_aload_n (pc1 := 111) d_PotSearch_tryHeats_110 rfl 0 rfl ?_
      refine g_aload_n (pc1 := 112) d_PotSearch_tryHeats_111 rfl 1 rfl ?_
      refine g_iload (pc1 := 114) d_PotSearch_tryHeats_112 rfl 4 rfl ?_
      refine g_iload_n (pc1 := 115) d_PotSearch_tryHeats_114 rfl 2 rfl ?_
      refine g_callV0 (pc1 := 118) (As := [.ref Ld1, .int v5, .int v2]) (rest := []) d_PotSearch_tryHeats_115 rfl mo_PotSearch_106 mi_PotSearch_isEnough mv_PotSearch_isEnough rfl sh_391 (by decide) (by decide) rfl rfl (Nat.le_of_ble_eq_true rfl) ?_
      obtain ⟨r6, M7, hq5, h⟩ := bnd2 h
      refine f_PotSearch_isEnough hld hLd1 hq5 ?_
      dsimp only [psh]
      refine g_if_eq (pc1 := 121) (tgt := 160) d_PotSearch_tryHeats_118 (by decide) rfl (fun c8 => ?_) (fun c8 => ?_)
      · replace h := itp h c8
        obtain ⟨x9, ex9, h⟩ := ltI h
        refine g_iinc (pc1 := 163) (v := x9) (lv' := [(0, .ref 391), (1, .ref Ld1), (2, .int v2), (4, .int v4), (5, .int x9)]) d_PotSearch_tryHeats_160 rfl 4 rfl (by rw [ex9]; rfl) (by decide) [1, 2, 3, 4, 0] rfl ?_
        refine g_goto (tgt := 103) d_PotSearch_tryHeats_163 (by decide) ?_
        exact hK103 x9 M7 h
      · replace h := itn h c8
        refine Wp.loc (lv' := [(0, .ref 391), (5, .int v5)]) [0, 4] rfl ?_
        exact j_PotSearch_tryHeats_121 hld hLd1 hQ  h
def J_PotSearch_tryHeats_98 (Ld1 : Nat) (v2 : Int32) (s0 : Int32) (M : gM) : Option (gM) :=
  H_PotSearch_tryHeats_103 Ld1 v2 s0 FU 0 M
set_option maxHeartbeats 4000000 in
set_option maxRecDepth 20000 in
theorem j_PotSearch_tryHeats_98 {l : Launch} {ld : Nat} {Q : Option Value → gM → gL → gR → Prop} (hld : isLa ld) {Ld1 : Nat} (hLd1 : isLa Ld1) {q : gM} {M : gM} {L : gL} (hQ : Q none q L (rf ld))  {v2 : Int32} {s0 : Int32}  (h : J_PotSearch_tryHeats_98 Ld1 v2 s0 M = some q) : Wp l y_PotSearch_tryHeats (0, 0, 447) 447 0 0 98 [(0, .ref 391), (1, .ref Ld1), (2, .int v2)] [.int s0] M L (rf ld) Q := by
  unfold J_PotSearch_tryHeats_98 at h
  refine g_istore (pc1 := 100) (lv' := [(0, .ref 391), (1, .ref Ld1), (2, .int v2), (4, .int s0)]) d_PotSearch_tryHeats_98 rfl (by decide) [1, 2, 3, 0] rfl ?_
  refine g_iconst (pc1 := 101) (v := 0) d_PotSearch_tryHeats_100 rfl (by decide) ?_
  refine g_istore (pc1 := 103) (lv' := [(0, .ref 391), (1, .ref Ld1), (2, .int v2), (4, .int s0), (5, .int 0)]) d_PotSearch_tryHeats_101 rfl (by decide) [1, 2, 3, 4, 0] rfl ?_
  exact h_PotSearch_tryHeats_103 hld hLd1 hQ  _ 0 M h
def J_PotSearch_tryHeats_75 (Ld1 : Nat) (v2 : Int32) (s0 : Int32) (M : gM) : Option (gM) :=
  (if s0 = 0 then J_PotSearch_tryHeats_98 Ld1 v2 (M 391 10) M else J_PotSearch_tryHeats_98 Ld1 v2 (if (M 391 10) < (M 391 8) then (M 391 10) else (M 391 8)) M)
set_option maxHeartbeats 4000000 in
set_option maxRecDepth 20000 in
theorem j_PotSearch_tryHeats_75 {l : Launch} {ld : Nat} {Q : Option Value → gM → gL → gR → Prop} (hld : isLa ld) {Ld1 : Nat} (hLd1 : isLa Ld1) {q : gM} {M : gM} {L : gL} (hQ : Q none q L (rf ld))  {v2 : Int32} {s0 : Int32}  (h : J_PotSearch_tryHeats_75 Ld1 v2 s0 M = some q) : Wp l y_PotSearch_tryHeats (0, 0, 447) 447 0 0 75 [(0, .ref 391), (1, .ref Ld1), (2, .int v2)] [.int s0] M L (rf ld) Q := by
  unfold J_PotSearch_tryHeats_75 at h
  refine g_istore_n (pc1 := 76) (lv' := [(0, .ref 391), (1, .ref Ld1), (2, .int v2), (3, .int s0)]) d_PotSearch_tryHeats_75 rfl rfl (by decide) [1, 2, 3, 0] rfl ?_
  refine g_iload_n (pc1 := 77) d_PotSearch_tryHeats_76 rfl 3 rfl ?_
  refine g_if_eq (pc1 := 80) (tgt := 94) d_PotSearch_tryHeats_77 (by decide) rfl (fun c3 => ?_) (fun c3 => ?_)
  · replace h := itp h c3
    refine g_aload_n (pc1 := 95) d_PotSearch_tryHeats_94 rfl 0 rfl ?_
    refine g_geti (pc1 := 98) d_PotSearch_tryHeats_95 rfl ⟨_, fo_PotSearch_44⟩ sh_391 (by decide) ?_
    refine Wp.loc (lv' := [(0, .ref 391), (1, .ref Ld1), (2, .int v2)]) [0, 1, 2] rfl ?_
    exact j_PotSearch_tryHeats_98 hld hLd1 hQ  h
  · replace h := itn h c3
    refine g_aload_n (pc1 := 81) d_PotSearch_tryHeats_80 rfl 0 rfl ?_
    refine g_geti (pc1 := 84) d_PotSearch_tryHeats_81 rfl ⟨_, fo_PotSearch_103⟩ sh_391 (by decide) ?_
    refine g_aload_n (pc1 := 85) d_PotSearch_tryHeats_84 rfl 0 rfl ?_
    refine g_geti (pc1 := 88) d_PotSearch_tryHeats_85 rfl ⟨_, fo_PotSearch_44⟩ sh_391 (by decide) ?_
    refine g_mmin (pc1 := 91) d_PotSearch_tryHeats_88 rfl mm_PotSearch_79 (by decide) ⟨Nat.le_refl 0, Nat.le_refl 0⟩ (Nat.le_of_ble_eq_true rfl) ?_
    refine g_goto (tgt := 98) d_PotSearch_tryHeats_91 (by decide) ?_
    refine Wp.loc (lv' := [(0, .ref 391), (1, .ref Ld1), (2, .int v2)]) [0, 1, 2] rfl ?_
    exact j_PotSearch_tryHeats_98 hld hLd1 hQ  h
def J_PotSearch_tryHeats_74 (Ld1 : Nat) (v2 : Int32) (M : gM) : Option (gM) :=
  J_PotSearch_tryHeats_75 Ld1 v2 0 M
set_option maxHeartbeats 4000000 in
set_option maxRecDepth 20000 in
theorem j_PotSearch_tryHeats_74 {l : Launch} {ld : Nat} {Q : Option Value → gM → gL → gR → Prop} (hld : isLa ld) {Ld1 : Nat} (hLd1 : isLa Ld1) {q : gM} {M : gM} {L : gL} (hQ : Q none q L (rf ld))  {v2 : Int32}  (h : J_PotSearch_tryHeats_74 Ld1 v2 M = some q) : Wp l y_PotSearch_tryHeats (0, 0, 447) 447 0 0 74 [(0, .ref 391), (1, .ref Ld1), (2, .int v2)] [] M L (rf ld) Q := by
  unfold J_PotSearch_tryHeats_74 at h
  refine g_iconst (pc1 := 75) (v := 0) d_PotSearch_tryHeats_74 rfl (by decide) ?_
  exact j_PotSearch_tryHeats_75 hld hLd1 hQ  h
def J_PotSearch_tryHeats_41 (Ld1 : Nat) (v2 : Int32) (M : gM) : Option (gM) :=
  (if (b01 (M 391 9)) = 0 then J_PotSearch_tryHeats_74 Ld1 v2 M else (if (M 391 4) = (M 391 6) then (if (M 391 3) = (M 391 7) then J_PotSearch_tryHeats_75 Ld1 v2 1 M else J_PotSearch_tryHeats_74 Ld1 v2 M) else J_PotSearch_tryHeats_74 Ld1 v2 M))
set_option maxHeartbeats 4000000 in
set_option maxRecDepth 20000 in
theorem j_PotSearch_tryHeats_41 {l : Launch} {ld : Nat} {Q : Option Value → gM → gL → gR → Prop} (hld : isLa ld) {Ld1 : Nat} (hLd1 : isLa Ld1) {q : gM} {M : gM} {L : gL} (hQ : Q none q L (rf ld))  {v2 : Int32}  (h : J_PotSearch_tryHeats_41 Ld1 v2 M = some q) : Wp l y_PotSearch_tryHeats (0, 0, 447) 447 0 0 41 [(0, .ref 391), (1, .ref Ld1), (2, .int v2)] [] M L (rf ld) Q := by
  unfold J_PotSearch_tryHeats_41 at h
  refine g_aload_n (pc1 := 42) d_PotSearch_tryHeats_41 rfl 0 rfl ?_
  refine g_getz (pc1 := 45) d_PotSearch_tryHeats_42 rfl ⟨_, fo_PotSearch_28⟩ sh_391 (by decide) ?_
  refine g_if_eq (pc1 := 48) (tgt := 74) d_PotSearch_tryHeats_45 (by decide) rfl (fun c2 => ?_) (fun c2 => ?_)
  · replace h := itp h c2
    exact j_PotSearch_tryHeats_74 hld hLd1 hQ  h
  · replace h := itn h c2
    refine g_aload_n (pc1 := 49) d_PotSearch_tryHeats_48 rfl 0 rfl ?_
    refine g_geti (pc1 := 52) d_PotSearch_tryHeats_49 rfl ⟨_, fo_PotSearch_89⟩ sh_391 (by decide) ?_
    refine g_aload_n (pc1 := 53) d_PotSearch_tryHeats_52 rfl 0 rfl ?_
    refine g_geti (pc1 := 56) d_PotSearch_tryHeats_53 rfl ⟨_, fo_PotSearch_97⟩ sh_391 (by decide) ?_
    refine g_icmp_ne (pc1 := 59) (tgt := 74) d_PotSearch_tryHeats_56 (by decide) rfl (fun c16 => ?_) (fun c16 => ?_)
    · replace h := itn h c16
      exact j_PotSearch_tryHeats_74 hld hLd1 hQ  h
    · replace h := itp h c16
      refine g_aload_n (pc1 := 60) d_PotSearch_tryHeats_59 rfl 0 rfl ?_
      refine g_geti (pc1 := 63) d_PotSearch_tryHeats_60 rfl ⟨_, fo_PotSearch_56⟩ sh_391 (by decide) ?_
      refine g_aload_n (pc1 := 64) d_PotSearch_tryHeats_63 rfl 0 rfl ?_
      refine g_geti (pc1 := 67) d_PotSearch_tryHeats_64 rfl ⟨_, fo_PotSearch_100⟩ sh_391 (by decide) ?_
      refine g_icmp_ne (pc1 := 70) (tgt := 74) d_PotSearch_tryHeats_67 (by decide) rfl (fun c17 => ?_) (fun c17 => ?_)
      · replace h := itn h c17
        exact j_PotSearch_tryHeats_74 hld hLd1 hQ  h
      · replace h := itp h c17
        refine g_iconst (pc1 := 71) (v := 1) d_PotSearch_tryHeats_70 rfl (by decide) ?_
        refine g_goto (tgt := 75) d_PotSearch_tryHeats_71 (by decide) ?_
        exact j_PotSearch_tryHeats_75 hld hLd1 hQ  h
def F_PotSearch_tryHeats (Ld1 : Nat) (p2 : Int32) (M : gM) : Option (gM) :=
  (if (b01 (M 391 9)) = 0 then J_PotSearch_tryHeats_41 Ld1 p2 M else (if (M 391 6) < (M 391 4) then some M else (if (M 391 4) = (M 391 6) then (if (M 391 3) ≤ (M 391 7) then J_PotSearch_tryHeats_41 Ld1 p2 M else some M) else J_PotSearch_tryHeats_41 Ld1 p2 M)))
set_option maxHeartbeats 4000000 in
set_option maxRecDepth 20000 in
theorem f_PotSearch_tryHeats {l : Launch} {ld : Nat} {M : gM} {L : gL} {Q : Option Value → gM → gL → gR → Prop} (hld : isLa ld) {Ld1 : Nat} {p2 : Int32} (hLd1 : isLa Ld1) {q : gM} (h : F_PotSearch_tryHeats Ld1 p2 M = some q) (hQ : Q none q L (rf ld)) : Tm l y_PotSearch_tryHeats (0, 0, 447) 447 [.ref 391, .ref Ld1, .int p2] M L (rf ld) Q := by
  refine Tm.of (by decide) (Nat.le_of_ble_eq_true rfl) ?_
  show Wp l y_PotSearch_tryHeats (0, 0, 447) 447 0 0 0 [(0, .ref 391), (1, .ref Ld1), (2, .int p2)] [] M L (rf ld) Q
  unfold F_PotSearch_tryHeats at h
  refine g_aload_n (pc1 := 1) d_PotSearch_tryHeats_0 rfl 0 rfl ?_
  refine g_getz (pc1 := 4) d_PotSearch_tryHeats_1 rfl ⟨_, fo_PotSearch_28⟩ sh_391 (by decide) ?_
  refine g_if_eq (pc1 := 7) (tgt := 41) d_PotSearch_tryHeats_4 (by decide) rfl (fun c1 => ?_) (fun c1 => ?_)
  · replace h := itp h c1
    exact j_PotSearch_tryHeats_41 hld hLd1 hQ  h
  · replace h := itn h c1
    refine g_aload_n (pc1 := 8) d_PotSearch_tryHeats_7 rfl 0 rfl ?_
    refine g_geti (pc1 := 11) d_PotSearch_tryHeats_8 rfl ⟨_, fo_PotSearch_89⟩ sh_391 (by decide) ?_
    refine g_aload_n (pc1 := 12) d_PotSearch_tryHeats_11 rfl 0 rfl ?_
    refine g_geti (pc1 := 15) d_PotSearch_tryHeats_12 rfl ⟨_, fo_PotSearch_97⟩ sh_391 (by decide) ?_
    refine g_icmp_gt (pc1 := 18) (tgt := 40) d_PotSearch_tryHeats_15 (by decide) rfl (fun c18 => ?_) (fun c18 => ?_)
    · replace h := itp h c18
      refine g_return rfl d_PotSearch_tryHeats_40 rfl ?_
      cases h; exact hQ
    · replace h := itn h c18
      refine g_aload_n (pc1 := 19) d_PotSearch_tryHeats_18 rfl 0 rfl ?_
      refine g_geti (pc1 := 22) d_PotSearch_tryHeats_19 rfl ⟨_, fo_PotSearch_89⟩ sh_391 (by decide) ?_
      refine g_aload_n (pc1 := 23) d_PotSearch_tryHeats_22 rfl 0 rfl ?_
      refine g_geti (pc1 := 26) d_PotSearch_tryHeats_23 rfl ⟨_, fo_PotSearch_97⟩ sh_391 (by decide) ?_
      refine g_icmp_ne (pc1 := 29) (tgt := 41) d_PotSearch_tryHeats_26 (by decide) rfl (fun c19 => ?_) (fun c19 => ?_)
      · replace h := itn h c19
        exact j_PotSearch_tryHeats_41 hld hLd1 hQ  h
      · replace h := itp h c19
        refine g_aload_n (pc1 := 30) d_PotSearch_tryHeats_29 rfl 0 rfl ?_
        refine g_geti (pc1 := 33) d_PotSearch_tryHeats_30 rfl ⟨_, fo_PotSearch_56⟩ sh_391 (by decide) ?_
        refine g_aload_n (pc1 := 34) d_PotSearch_tryHeats_33 rfl 0 rfl ?_
        refine g_geti (pc1 := 37) d_PotSearch_tryHeats_34 rfl ⟨_, fo_PotSearch_100⟩ sh_391 (by decide) ?_
        refine g_icmp_le (pc1 := 40) (tgt := 41) d_PotSearch_tryHeats_37 (by decide) rfl (fun c20 => ?_) (fun c20 => ?_)
        · replace h := itp h c20
          exact j_PotSearch_tryHeats_41 hld hLd1 hQ  h
        · replace h := itn h c20
          refine g_return rfl d_PotSearch_tryHeats_40 rfl ?_
          cases h; exact hQ

def F_Reader_takeDeed (Ld1 : Nat) (M : gM) (L : gL) : Option (gM × gL) :=
  nmI (M Ld1 3) (fun x1 => (if x1 < 6 then bI (F_Reader_take M) (fun M4 => bI2 (F_Reader_takeNewName (-1) M4 L) (fun M6 L7 => bI2 (F_Reader_takeInt 2 M6 L7) (fun r9 M10 => bI (F_Main_put (Ld1 + 7) 6 x1 r9 M10) (fun M12 => bI2 (F_Reader_takeInt 99 M12 L7) (fun r14 M15 => bI (F_Main_put (Ld1 + 8) 6 x1 r14 M15) (fun M17 => bI (F_Reader_need 59 M17) (fun M19 => nmM (uM M19 Ld1 3 (x1 + 1)) (fun M20 => some (M20, L7))))))))) else bI (F_Reader_stop 2 M) (fun M22 => some (M22, L))))
set_option maxHeartbeats 4000000 in
set_option maxRecDepth 20000 in
theorem f_Reader_takeDeed {l : Launch} {ld : Nat} {M : gM} {L : gL} {Q : Option Value → gM → gL → gR → Prop} (hld : isLa ld) {Ld1 : Nat} (hLd1 : isLa Ld1) {q : gM × gL} (h : F_Reader_takeDeed Ld1 M L = some q) (hQ : Q none q.1 q.2 (rf ld)) : Tm l y_Reader_takeDeed (0, 0, 447) 447 [.ref 3, .ref Ld1] M L (rf ld) Q := by
  refine Tm.of (by decide) (Nat.le_of_ble_eq_true rfl) ?_
  show Wp l y_Reader_takeDeed (0, 0, 447) 447 0 0 0 [(0, .ref 3), (1, .ref Ld1)] [] M L (rf ld) Q
  unfold F_Reader_takeDeed at h
  refine g_aload_n (pc1 := 1) d_Reader_takeDeed_0 rfl 1 rfl ?_
  refine g_geti (pc1 := 4) d_Reader_takeDeed_1 rfl ⟨_, fo_Reader_171⟩ (shLa_0 hLd1) (ltLa_0 hLd1) ?_
  refine Wp.lI h (fun x1 h => ?_)
  refine g_istore_n (pc1 := 5) (lv' := [(0, .ref 3), (1, .ref Ld1), (2, .int x1)]) d_Reader_takeDeed_4 rfl rfl (by decide) [1, 2, 0] rfl ?_
  refine g_iload_n (pc1 := 6) d_Reader_takeDeed_5 rfl 2 rfl ?_
  refine g_bipush (pc1 := 8) (v := 6) d_Reader_takeDeed_6 rfl (by decide) ?_
  refine g_icmp_lt (pc1 := 11) (tgt := 17) d_Reader_takeDeed_8 (by decide) rfl (fun c2 => ?_) (fun c2 => ?_)
  · replace h := itp h c2
    refine g_aload_n (pc1 := 18) d_Reader_takeDeed_17 rfl 0 rfl ?_
    refine g_callV0 (pc1 := 21) (As := []) (rest := []) d_Reader_takeDeed_18 rfl mo_Reader_108 mi_Reader_take mv_Reader_take rfl sh_3 (by decide) (by decide) rfl rfl (Nat.le_of_ble_eq_true rfl) ?_
    obtain ⟨M4, hq3, h⟩ := bnd h
    refine f_Reader_take hld  hq3 ?_
    dsimp only [psh]
    refine g_aload_n (pc1 := 22) d_Reader_takeDeed_21 rfl 0 rfl ?_
    refine g_iconst (pc1 := 23) (v := (-1)) d_Reader_takeDeed_22 rfl (by decide) ?_
    refine g_callV0 (pc1 := 26) (As := [.int (-1)]) (rest := []) d_Reader_takeDeed_23 rfl mo_Reader_128 mi_Reader_takeNewName mv_Reader_takeNewName rfl sh_3 (by decide) (by decide) rfl rfl (Nat.le_of_ble_eq_true rfl) ?_
    obtain ⟨M6, L7, hq5, h⟩ := bnd2 h
    refine f_Reader_takeNewName hld  hq5 ?_
    dsimp only [psh]
    refine g_aload_n (pc1 := 27) d_Reader_takeDeed_26 rfl 1 rfl ?_
    refine g_getr (pc1 := 30) d_Reader_takeDeed_27 rfl ⟨_, fo_Reader_174⟩ (shLa_0 hLd1) (ltLa_0 hLd1) (rfLa_11 ld hLd1) ?_
    refine g_iload_n (pc1 := 31) d_Reader_takeDeed_30 rfl 2 rfl ?_
    refine g_aload_n (pc1 := 32) d_Reader_takeDeed_31 rfl 0 rfl ?_
    refine g_iconst (pc1 := 33) (v := 2) d_Reader_takeDeed_32 rfl (by decide) ?_
    refine g_callV0 (pc1 := 36) (As := [.int 2]) (rest := [.int x1, .ref (Ld1 + 7)]) d_Reader_takeDeed_33 rfl mo_Reader_134 mi_Reader_takeInt mv_Reader_takeInt rfl sh_3 (by decide) (by decide) rfl rfl (Nat.le_of_ble_eq_true rfl) ?_
    obtain ⟨r9, M10, hq8, h⟩ := bnd2 h
    refine f_Reader_takeInt hld  hq8 ?_
    dsimp only [psh]
    refine g_callS0 (pc1 := 39) (As := [.ref (Ld1 + 7), .int x1, .int r9]) (rest := []) d_Reader_takeDeed_36 rfl mo_Reader_138 ms_Main_put (by decide) rfl rfl (Nat.le_of_ble_eq_true rfl) ?_
    obtain ⟨M12, hq11, h⟩ := bnd h
    refine f_Main_put hld (shLa_7 hLd1) (ltLa_7 hLd1) (by decide) hq11 ?_
    dsimp only [psh]
    refine g_aload_n (pc1 := 40) d_Reader_takeDeed_39 rfl 1 rfl ?_
    refine g_getr (pc1 := 43) d_Reader_takeDeed_40 rfl ⟨_, fo_Reader_177⟩ (shLa_0 hLd1) (ltLa_0 hLd1) (rfLa_12 ld hLd1) ?_
    refine g_iload_n (pc1 := 44) d_Reader_takeDeed_43 rfl 2 rfl ?_
    refine g_aload_n (pc1 := 45) d_Reader_takeDeed_44 rfl 0 rfl ?_
    refine g_bipush (pc1 := 47) (v := 99) d_Reader_takeDeed_45 rfl (by decide) ?_
    refine g_callV0 (pc1 := 50) (As := [.int 99]) (rest := [.int x1, .ref (Ld1 + 8)]) d_Reader_takeDeed_47 rfl mo_Reader_134 mi_Reader_takeInt mv_Reader_takeInt rfl sh_3 (by decide) (by decide) rfl rfl (Nat.le_of_ble_eq_true rfl) ?_
    obtain ⟨r14, M15, hq13, h⟩ := bnd2 h
    refine f_Reader_takeInt hld  hq13 ?_
    dsimp only [psh]
    refine g_callS0 (pc1 := 53) (As := [.ref (Ld1 + 8), .int x1, .int r14]) (rest := []) d_Reader_takeDeed_50 rfl mo_Reader_138 ms_Main_put (by decide) rfl rfl (Nat.le_of_ble_eq_true rfl) ?_
    obtain ⟨M17, hq16, h⟩ := bnd h
    refine f_Main_put hld (shLa_8 hLd1) (ltLa_8 hLd1) (by decide) hq16 ?_
    dsimp only [psh]
    refine g_aload_n (pc1 := 54) d_Reader_takeDeed_53 rfl 0 rfl ?_
    refine g_bipush (pc1 := 56) (v := 59) d_Reader_takeDeed_54 rfl (by decide) ?_
    refine g_callV0 (pc1 := 59) (As := [.int 59]) (rest := []) d_Reader_takeDeed_56 rfl mo_Reader_118 mi_Reader_need mv_Reader_need rfl sh_3 (by decide) (by decide) rfl rfl (Nat.le_of_ble_eq_true rfl) ?_
    obtain ⟨M19, hq18, h⟩ := bnd h
    refine f_Reader_need hld  hq18 ?_
    dsimp only [psh]
    refine g_aload_n (pc1 := 60) d_Reader_takeDeed_59 rfl 1 rfl ?_
    refine g_iload_n (pc1 := 61) d_Reader_takeDeed_60 rfl 2 rfl ?_
    refine g_iconst (pc1 := 62) (v := 1) d_Reader_takeDeed_61 rfl (by decide) ?_
    refine g_iadd (pc1 := 63) d_Reader_takeDeed_62 rfl ?_
    refine g_puti (pc1 := 66) d_Reader_takeDeed_63 rfl fo_Reader_171 (po_4_3 _) (shLa_0 hLd1) (ltLa_0 hLd1) ?_
    refine Wp.lM h (fun M20 h => ?_)
    refine g_return rfl d_Reader_takeDeed_66 rfl ?_
    cases h; exact hQ
  · replace h := itn h c2
    refine g_aload_n (pc1 := 12) d_Reader_takeDeed_11 rfl 0 rfl ?_
    refine g_iconst (pc1 := 13) (v := 2) d_Reader_takeDeed_12 rfl (by decide) ?_
    refine g_callV0 (pc1 := 16) (As := [.int 2]) (rest := []) d_Reader_takeDeed_13 rfl mo_Reader_95 mi_Reader_stop mv_Reader_stop rfl sh_3 (by decide) (by decide) rfl rfl (Nat.le_of_ble_eq_true rfl) ?_
    obtain ⟨M22, hq21, h⟩ := bnd h
    refine f_Reader_stop hld  hq21 ?_
    dsimp only [psh]
    refine g_return rfl d_Reader_takeDeed_16 rfl ?_
    cases h; exact hQ

def J_Reader_takeDish_94 (Ld1 : Nat) (v2 : Int32) (M : gM) (L : gL) : Option (gM × gL) :=
  bI (F_Reader_need 59 M) (fun M17 => nmM (uM M17 Ld1 1 (v2 + 1)) (fun M18 => some (M18, L)))
set_option maxHeartbeats 4000000 in
set_option maxRecDepth 20000 in
theorem j_Reader_takeDish_94 {l : Launch} {ld : Nat} {Q : Option Value → gM → gL → gR → Prop} (hld : isLa ld) {Ld1 : Nat} (hLd1 : isLa Ld1) {q : gM × gL} {M : gM} {L : gL} (hQ : Q none q.1 q.2 (rf ld))  {v2 : Int32}  (h : J_Reader_takeDish_94 Ld1 v2 M L = some q) : Wp l y_Reader_takeDish (0, 0, 447) 447 0 0 94 [(0, .ref 3), (1, .ref Ld1), (2, .int v2)] [] M L (rf ld) Q := by
  unfold J_Reader_takeDish_94 at h
  refine g_aload_n (pc1 := 95) d_Reader_takeDish_94 rfl 0 rfl ?_
  refine g_bipush (pc1 := 97) (v := 59) d_Reader_takeDish_95 rfl (by decide) ?_
  refine g_callV0 (pc1 := 100) (As := [.int 59]) (rest := []) d_Reader_takeDish_97 rfl mo_Reader_118 mi_Reader_need mv_Reader_need rfl sh_3 (by decide) (by decide) rfl rfl (Nat.le_of_ble_eq_true rfl) ?_
  obtain ⟨M17, hq16, h⟩ := bnd h
  refine f_Reader_need hld  hq16 ?_
  dsimp only [psh]
  refine g_aload_n (pc1 := 101) d_Reader_takeDish_100 rfl 1 rfl ?_
  refine g_iload_n (pc1 := 102) d_Reader_takeDish_101 rfl 2 rfl ?_
  refine g_iconst (pc1 := 103) (v := 1) d_Reader_takeDish_102 rfl (by decide) ?_
  refine g_iadd (pc1 := 104) d_Reader_takeDish_103 rfl ?_
  refine g_puti (pc1 := 107) d_Reader_takeDish_104 rfl fo_Reader_148 (po_4_1 _) (shLa_0 hLd1) (ltLa_0 hLd1) ?_
  refine Wp.lM h (fun M18 h => ?_)
  refine g_return rfl d_Reader_takeDish_107 rfl ?_
  cases h; exact hQ
def J_Reader_takeDish_88 (Ld1 : Nat) (K47 : Int32 → gM → Option (gM × gL)) (v2 : Int32) (v3 : Int32) (M : gM) (L : gL) : Option (gM × gL) :=
  nmI (v3 + 1) (fun x26 => K47 x26 M)
set_option maxHeartbeats 4000000 in
set_option maxRecDepth 20000 in
theorem j_Reader_takeDish_88 {l : Launch} {ld : Nat} {Q : Option Value → gM → gL → gR → Prop} (hld : isLa ld) {Ld1 : Nat} (hLd1 : isLa Ld1) {q : gM × gL} {M : gM} {L : gL} (hQ : Q none q.1 q.2 (rf ld)) {K47 : Int32 → gM → Option (gM × gL)} {v2 : Int32} {v3 : Int32} (hK47 : ∀ (w3 : Int32) (M : gM), K47 w3 M = some q → Wp l y_Reader_takeDish (0, 0, 447) 447 0 0 47 [(0, .ref 3), (1, .ref Ld1), (2, .int v2), (3, .int w3)] [] M L (rf ld) Q) (h : J_Reader_takeDish_88 Ld1 K47 v2 v3 M L = some q) : Wp l y_Reader_takeDish (0, 0, 447) 447 0 0 88 [(0, .ref 3), (1, .ref Ld1), (2, .int v2), (3, .int v3)] [] M L (rf ld) Q := by
  unfold J_Reader_takeDish_88 at h
  obtain ⟨x26, ex26, h⟩ := ltI h
  refine g_iinc (pc1 := 91) (v := x26) (lv' := [(0, .ref 3), (1, .ref Ld1), (2, .int v2), (3, .int x26)]) d_Reader_takeDish_88 rfl 3 rfl (by rw [ex26]; rfl) (by decide) [1, 2, 3, 0] rfl ?_
  refine g_goto (tgt := 47) d_Reader_takeDish_91 (by decide) ?_
  exact hK47 x26 M h
def B_Reader_takeDish_47 (Ld1 : Nat) (v2 : Int32) (L : gL) (K47 : Int32 → gM → Option (gM × gL)) : Int32 → gM → Option (gM × gL) := fun v3 M =>
  (if 6 < v3 then J_Reader_takeDish_94 Ld1 v2 M L else (if (M 3 2) = 0 then bI (F_Reader_is 2 M) (fun r21 => (if r21 = 0 then J_Reader_takeDish_94 Ld1 v2 M L else (if v3 = 6 then bI (F_Reader_stop 2 M) (fun M28 => J_Reader_takeDish_88 Ld1 K47 v2 v3 M28 L) else bI (F_Reader_takeIngredient Ld1 v2 M L) (fun M25 => J_Reader_takeDish_88 Ld1 K47 v2 v3 M25 L)))) else J_Reader_takeDish_94 Ld1 v2 M L))
def H_Reader_takeDish_47 (Ld1 : Nat) (v2 : Int32) (L : gL) : Nat → Int32 → gM → Option (gM × gL) := lpK (B_Reader_takeDish_47 Ld1 v2 L) (fun _ _ => none)
set_option maxHeartbeats 4000000 in
set_option maxRecDepth 20000 in
theorem h_Reader_takeDish_47 {l : Launch} {ld : Nat} {Q : Option Value → gM → gL → gR → Prop} (hld : isLa ld) {Ld1 : Nat} (hLd1 : isLa Ld1) {q : gM × gL} {L : gL} (hQ : Q none q.1 q.2 (rf ld))  {v2 : Int32}  : ∀ (f : Nat) (v3 : Int32) (M : gM), H_Reader_takeDish_47 Ld1 v2 L f v3 M = some q → Wp l y_Reader_takeDish (0, 0, 447) 447 0 0 47 [(0, .ref 3), (1, .ref Ld1), (2, .int v2), (3, .int v3)] [] M L (rf ld) Q := by
  intro f
  induction f with
  | zero => intro v3 M h; cases h
  | succ f hK47 =>
    intro v3 M h
    replace h : B_Reader_takeDish_47 Ld1 v2 L (H_Reader_takeDish_47 Ld1 v2 L f) v3 M = some q := h
    unfold B_Reader_takeDish_47 at h
    refine g_iload_n (pc1 := 48) d_Reader_takeDish_47 rfl 3 rfl ?_
    refine g_bipush (pc1 := 50) (v := 6) d_Reader_takeDish_48 rfl (by decide) ?_
    refine g_icmp_gt (pc1 := 53) (tgt := 94) d_Reader_takeDish_50 (by decide) rfl (fun c15 => ?_) (fun c15 => ?_)
    · replace h := itp h c15
      refine Wp.loc (lv' := [(0, .ref 3), (1, .ref Ld1), (2, .int v2)]) [0, 1, 2] rfl ?_
      exact j_Reader_takeDish_94 hld hLd1 hQ  h
    · replace h := itn h c15
      refine g_aload_n (pc1 := 54) d_Reader_takeDish_53 rfl 0 rfl ?_
      refine g_geti (pc1 := 57) d_Reader_takeDish_54 rfl ⟨_, fo_Reader_42⟩ sh_3 (by decide) ?_
      refine g_if_ne (pc1 := 60) (tgt := 94) d_Reader_takeDish_57 (by decide) rfl (fun c19 => ?_) (fun c19 => ?_)
      · replace h := itn h c19
        refine Wp.loc (lv' := [(0, .ref 3), (1, .ref Ld1), (2, .int v2)]) [0, 1, 2] rfl ?_
        exact j_Reader_takeDish_94 hld hLd1 hQ  h
      · replace h := itp h c19
        refine g_aload_n (pc1 := 61) d_Reader_takeDish_60 rfl 0 rfl ?_
        refine g_iconst (pc1 := 62) (v := 2) d_Reader_takeDish_61 rfl (by decide) ?_
        refine g_callV0 (pc1 := 65) (As := [.int 2]) (rest := []) d_Reader_takeDish_62 rfl mo_Reader_51 mi_Reader_is mv_Reader_is rfl sh_3 (by decide) (by decide) rfl rfl (Nat.le_of_ble_eq_true rfl) ?_
        obtain ⟨r21, hq20, h⟩ := bnd h
        refine f_Reader_is hld  hq20 ?_
        dsimp only [psh]
        refine g_if_eq (pc1 := 68) (tgt := 94) d_Reader_takeDish_65 (by decide) rfl (fun c22 => ?_) (fun c22 => ?_)
        · replace h := itp h c22
          refine Wp.loc (lv' := [(0, .ref 3), (1, .ref Ld1), (2, .int v2)]) [0, 1, 2] rfl ?_
          exact j_Reader_takeDish_94 hld hLd1 hQ  h
        · replace h := itn h c22
          refine g_iload_n (pc1 := 69) d_Reader_takeDish_68 rfl 3 rfl ?_
          refine g_bipush (pc1 := 71) (v := 6) d_Reader_takeDish_69 rfl (by decide) ?_
          refine g_icmp_ne (pc1 := 74) (tgt := 82) d_Reader_takeDish_71 (by decide) rfl (fun c23 => ?_) (fun c23 => ?_)
          · replace h := itn h c23
            refine g_aload_n (pc1 := 83) d_Reader_takeDish_82 rfl 0 rfl ?_
            refine g_aload_n (pc1 := 84) d_Reader_takeDish_83 rfl 1 rfl ?_
            refine g_iload_n (pc1 := 85) d_Reader_takeDish_84 rfl 2 rfl ?_
            refine g_callV0 (pc1 := 88) (As := [.ref Ld1, .int v2]) (rest := []) d_Reader_takeDish_85 rfl mo_Reader_154 mi_Reader_takeIngredient mv_Reader_takeIngredient rfl sh_3 (by decide) (by decide) rfl rfl (Nat.le_of_ble_eq_true rfl) ?_
            obtain ⟨M25, hq24, h⟩ := bnd h
            refine f_Reader_takeIngredient hld hLd1 hq24 ?_
            dsimp only [psh]
            exact j_Reader_takeDish_88 hld hLd1 hQ hK47 h
          · replace h := itp h c23
            refine g_aload_n (pc1 := 75) d_Reader_takeDish_74 rfl 0 rfl ?_
            refine g_iconst (pc1 := 76) (v := 2) d_Reader_takeDish_75 rfl (by decide) ?_
            refine g_callV0 (pc1 := 79) (As := [.int 2]) (rest := []) d_Reader_takeDish_76 rfl mo_Reader_95 mi_Reader_stop mv_Reader_stop rfl sh_3 (by decide) (by decide) rfl rfl (Nat.le_of_ble_eq_true rfl) ?_
            obtain ⟨M28, hq27, h⟩ := bnd h
            refine f_Reader_stop hld  hq27 ?_
            dsimp only [psh]
            refine g_goto (tgt := 88) d_Reader_takeDish_79 (by decide) ?_
            exact j_Reader_takeDish_88 hld hLd1 hQ hK47 h
def F_Reader_takeDish (Ld1 : Nat) (M : gM) (L : gL) : Option (gM × gL) :=
  nmI (M Ld1 1) (fun x1 => (if x1 < 5 then bI (F_Reader_take M) (fun M4 => bI2 (F_Reader_takeNewName (-1) M4 L) (fun M6 L7 => bI2 (F_Reader_takeInt 9 M6 L7) (fun r9 M10 => bI (F_Main_put (Ld1 + 4) 5 x1 r9 M10) (fun M12 => bI (F_Reader_takeIngredient Ld1 x1 M12 L7) (fun M14 => H_Reader_takeDish_47 Ld1 x1 L7 FU 1 M14))))) else bI (F_Reader_stop 2 M) (fun M30 => some (M30, L))))
set_option maxHeartbeats 4000000 in
set_option maxRecDepth 20000 in
theorem f_Reader_takeDish {l : Launch} {ld : Nat} {M : gM} {L : gL} {Q : Option Value → gM → gL → gR → Prop} (hld : isLa ld) {Ld1 : Nat} (hLd1 : isLa Ld1) {q : gM × gL} (h : F_Reader_takeDish Ld1 M L = some q) (hQ : Q none q.1 q.2 (rf ld)) : Tm l y_Reader_takeDish (0, 0, 447) 447 [.ref 3, .ref Ld1] M L (rf ld) Q := by
  refine Tm.of (by decide) (Nat.le_of_ble_eq_true rfl) ?_
  show Wp l y_Reader_takeDish (0, 0, 447) 447 0 0 0 [(0, .ref 3), (1, .ref Ld1)] [] M L (rf ld) Q
  unfold F_Reader_takeDish at h
  refine g_aload_n (pc1 := 1) d_Reader_takeDish_0 rfl 1 rfl ?_
  refine g_geti (pc1 := 4) d_Reader_takeDish_1 rfl ⟨_, fo_Reader_148⟩ (shLa_0 hLd1) (ltLa_0 hLd1) ?_
  refine Wp.lI h (fun x1 h => ?_)
  refine g_istore_n (pc1 := 5) (lv' := [(0, .ref 3), (1, .ref Ld1), (2, .int x1)]) d_Reader_takeDish_4 rfl rfl (by decide) [1, 2, 0] rfl ?_
  refine g_iload_n (pc1 := 6) d_Reader_takeDish_5 rfl 2 rfl ?_
  refine g_iconst (pc1 := 7) (v := 5) d_Reader_takeDish_6 rfl (by decide) ?_
  refine g_icmp_lt (pc1 := 10) (tgt := 16) d_Reader_takeDish_7 (by decide) rfl (fun c2 => ?_) (fun c2 => ?_)
  · replace h := itp h c2
    refine g_aload_n (pc1 := 17) d_Reader_takeDish_16 rfl 0 rfl ?_
    refine g_callV0 (pc1 := 20) (As := []) (rest := []) d_Reader_takeDish_17 rfl mo_Reader_108 mi_Reader_take mv_Reader_take rfl sh_3 (by decide) (by decide) rfl rfl (Nat.le_of_ble_eq_true rfl) ?_
    obtain ⟨M4, hq3, h⟩ := bnd h
    refine f_Reader_take hld  hq3 ?_
    dsimp only [psh]
    refine g_aload_n (pc1 := 21) d_Reader_takeDish_20 rfl 0 rfl ?_
    refine g_iconst (pc1 := 22) (v := (-1)) d_Reader_takeDish_21 rfl (by decide) ?_
    refine g_callV0 (pc1 := 25) (As := [.int (-1)]) (rest := []) d_Reader_takeDish_22 rfl mo_Reader_128 mi_Reader_takeNewName mv_Reader_takeNewName rfl sh_3 (by decide) (by decide) rfl rfl (Nat.le_of_ble_eq_true rfl) ?_
    obtain ⟨M6, L7, hq5, h⟩ := bnd2 h
    refine f_Reader_takeNewName hld  hq5 ?_
    dsimp only [psh]
    refine g_aload_n (pc1 := 26) d_Reader_takeDish_25 rfl 1 rfl ?_
    refine g_getr (pc1 := 29) d_Reader_takeDish_26 rfl ⟨_, fo_Reader_151⟩ (shLa_0 hLd1) (ltLa_0 hLd1) (rfLa_8 ld hLd1) ?_
    refine g_iload_n (pc1 := 30) d_Reader_takeDish_29 rfl 2 rfl ?_
    refine g_aload_n (pc1 := 31) d_Reader_takeDish_30 rfl 0 rfl ?_
    refine g_bipush (pc1 := 33) (v := 9) d_Reader_takeDish_31 rfl (by decide) ?_
    refine g_callV0 (pc1 := 36) (As := [.int 9]) (rest := [.int x1, .ref (Ld1 + 4)]) d_Reader_takeDish_33 rfl mo_Reader_134 mi_Reader_takeInt mv_Reader_takeInt rfl sh_3 (by decide) (by decide) rfl rfl (Nat.le_of_ble_eq_true rfl) ?_
    obtain ⟨r9, M10, hq8, h⟩ := bnd2 h
    refine f_Reader_takeInt hld  hq8 ?_
    dsimp only [psh]
    refine g_callS0 (pc1 := 39) (As := [.ref (Ld1 + 4), .int x1, .int r9]) (rest := []) d_Reader_takeDish_36 rfl mo_Reader_138 ms_Main_put (by decide) rfl rfl (Nat.le_of_ble_eq_true rfl) ?_
    obtain ⟨M12, hq11, h⟩ := bnd h
    refine f_Main_put hld (shLa_4 hLd1) (ltLa_4 hLd1) (by decide) hq11 ?_
    dsimp only [psh]
    refine g_aload_n (pc1 := 40) d_Reader_takeDish_39 rfl 0 rfl ?_
    refine g_aload_n (pc1 := 41) d_Reader_takeDish_40 rfl 1 rfl ?_
    refine g_iload_n (pc1 := 42) d_Reader_takeDish_41 rfl 2 rfl ?_
    refine g_callV0 (pc1 := 45) (As := [.ref Ld1, .int x1]) (rest := []) d_Reader_takeDish_42 rfl mo_Reader_154 mi_Reader_takeIngredient mv_Reader_takeIngredient rfl sh_3 (by decide) (by decide) rfl rfl (Nat.le_of_ble_eq_true rfl) ?_
    obtain ⟨M14, hq13, h⟩ := bnd h
    refine f_Reader_takeIngredient hld hLd1 hq13 ?_
    dsimp only [psh]
    refine g_iconst (pc1 := 46) (v := 1) d_Reader_takeDish_45 rfl (by decide) ?_
    refine g_istore_n (pc1 := 47) (lv' := [(0, .ref 3), (1, .ref Ld1), (2, .int x1), (3, .int 1)]) d_Reader_takeDish_46 rfl rfl (by decide) [1, 2, 3, 0] rfl ?_
    exact h_Reader_takeDish_47 hld hLd1 hQ  _ 1 M14 h
  · replace h := itn h c2
    refine g_aload_n (pc1 := 11) d_Reader_takeDish_10 rfl 0 rfl ?_
    refine g_iconst (pc1 := 12) (v := 2) d_Reader_takeDish_11 rfl (by decide) ?_
    refine g_callV0 (pc1 := 15) (As := [.int 2]) (rest := []) d_Reader_takeDish_12 rfl mo_Reader_95 mi_Reader_stop mv_Reader_stop rfl sh_3 (by decide) (by decide) rfl rfl (Nat.le_of_ble_eq_true rfl) ?_
    obtain ⟨M30, hq29, h⟩ := bnd h
    refine f_Reader_stop hld  hq29 ?_
    dsimp only [psh]
    refine g_return rfl d_Reader_takeDish_15 rfl ?_
    cases h; exact hQ

def J_Reader_takeFood_85 (Ld1 : Nat) (v2 : Int32) (M : gM) (L : gL) : Option (gM × gL) :=
  bI (F_Reader_need 59 M) (fun M20 => nmM (uM M20 Ld1 0 (v2 + 1)) (fun M21 => some (M21, L)))
set_option maxHeartbeats 4000000 in
set_option maxRecDepth 20000 in
theorem j_Reader_takeFood_85 {l : Launch} {ld : Nat} {Q : Option Value → gM → gL → gR → Prop} (hld : isLa ld) {Ld1 : Nat} (hLd1 : isLa Ld1) {q : gM × gL} {M : gM} {L : gL} (hQ : Q none q.1 q.2 (rf ld))  {v2 : Int32}  (h : J_Reader_takeFood_85 Ld1 v2 M L = some q) : Wp l y_Reader_takeFood (0, 0, 447) 447 0 0 85 [(0, .ref 3), (1, .ref Ld1), (2, .int v2)] [] M L (rf ld) Q := by
  unfold J_Reader_takeFood_85 at h
  refine g_aload_n (pc1 := 86) d_Reader_takeFood_85 rfl 0 rfl ?_
  refine g_bipush (pc1 := 88) (v := 59) d_Reader_takeFood_86 rfl (by decide) ?_
  refine g_callV0 (pc1 := 91) (As := [.int 59]) (rest := []) d_Reader_takeFood_88 rfl mo_Reader_118 mi_Reader_need mv_Reader_need rfl sh_3 (by decide) (by decide) rfl rfl (Nat.le_of_ble_eq_true rfl) ?_
  obtain ⟨M20, hq19, h⟩ := bnd h
  refine f_Reader_need hld  hq19 ?_
  dsimp only [psh]
  refine g_aload_n (pc1 := 92) d_Reader_takeFood_91 rfl 1 rfl ?_
  refine g_iload_n (pc1 := 93) d_Reader_takeFood_92 rfl 2 rfl ?_
  refine g_iconst (pc1 := 94) (v := 1) d_Reader_takeFood_93 rfl (by decide) ?_
  refine g_iadd (pc1 := 95) d_Reader_takeFood_94 rfl ?_
  refine g_puti (pc1 := 98) d_Reader_takeFood_95 rfl fo_Reader_125 (po_4_0 _) (shLa_0 hLd1) (ltLa_0 hLd1) ?_
  refine Wp.lM h (fun M21 h => ?_)
  refine g_return rfl d_Reader_takeFood_98 rfl ?_
  cases h; exact hQ
def B_Reader_takeFood_56 (Ld1 : Nat) (v2 : Int32) (L : gL) (K56 : Int32 → gM → Option (gM × gL)) : Int32 → gM → Option (gM × gL) := fun v3 M =>
  (if 3 ≤ v3 then J_Reader_takeFood_85 Ld1 v2 M L else bI2 (F_Reader_takeInt 9 M L) (fun r23 M24 => bI (F_Main_put (Ld1 + 3) 18 ((v2 * 3) + v3) r23 M24) (fun M26 => nmI (v3 + 1) (fun x27 => K56 x27 M26))))
def H_Reader_takeFood_56 (Ld1 : Nat) (v2 : Int32) (L : gL) : Nat → Int32 → gM → Option (gM × gL) := lpK (B_Reader_takeFood_56 Ld1 v2 L) (fun _ _ => none)
set_option maxHeartbeats 4000000 in
set_option maxRecDepth 20000 in
theorem h_Reader_takeFood_56 {l : Launch} {ld : Nat} {Q : Option Value → gM → gL → gR → Prop} (hld : isLa ld) {Ld1 : Nat} (hLd1 : isLa Ld1) {q : gM × gL} {L : gL} (hQ : Q none q.1 q.2 (rf ld))  {v2 : Int32}  : ∀ (f : Nat) (v3 : Int32) (M : gM), H_Reader_takeFood_56 Ld1 v2 L f v3 M = some q → Wp l y_Reader_takeFood (0, 0, 447) 447 0 0 56 [(0, .ref 3), (1, .ref Ld1), (2, .int v2), (3, .int v3)] [] M L (rf ld) Q := by
  intro f
  induction f with
  | zero => intro v3 M h; cases h
  | succ f hK56 =>
    intro v3 M h
    replace h : B_Reader_takeFood_56 Ld1 v2 L (H_Reader_takeFood_56 Ld1 v2 L f) v3 M = some q := h
    unfold B_Reader_takeFood_56 at h
    refine g_iload_n (pc1 := 57) d_Reader_takeFood_56 rfl 3 rfl ?_
    refine g_iconst (pc1 := 58) (v := 3) d_Reader_takeFood_57 rfl (by decide) ?_
    refine g_icmp_ge (pc1 := 61) (tgt := 85) d_Reader_takeFood_58 (by decide) rfl (fun c18 => ?_) (fun c18 => ?_)
    · replace h := itp h c18
      refine Wp.loc (lv' := [(0, .ref 3), (1, .ref Ld1), (2, .int v2)]) [0, 1, 2] rfl ?_
      exact j_Reader_takeFood_85 hld hLd1 hQ  h
    · replace h := itn h c18
      refine g_aload_n (pc1 := 62) d_Reader_takeFood_61 rfl 1 rfl ?_
      refine g_getr (pc1 := 65) d_Reader_takeFood_62 rfl ⟨_, fo_Reader_145⟩ (shLa_0 hLd1) (ltLa_0 hLd1) (rfLa_7 ld hLd1) ?_
      refine g_iload_n (pc1 := 66) d_Reader_takeFood_65 rfl 2 rfl ?_
      refine g_iconst (pc1 := 67) (v := 3) d_Reader_takeFood_66 rfl (by decide) ?_
      refine g_imul (pc1 := 68) d_Reader_takeFood_67 rfl ?_
      refine g_iload_n (pc1 := 69) d_Reader_takeFood_68 rfl 3 rfl ?_
      refine g_iadd (pc1 := 70) d_Reader_takeFood_69 rfl ?_
      refine g_aload_n (pc1 := 71) d_Reader_takeFood_70 rfl 0 rfl ?_
      refine g_bipush (pc1 := 73) (v := 9) d_Reader_takeFood_71 rfl (by decide) ?_
      refine g_callV0 (pc1 := 76) (As := [.int 9]) (rest := [.int ((v2 * 3) + v3), .ref (Ld1 + 3)]) d_Reader_takeFood_73 rfl mo_Reader_134 mi_Reader_takeInt mv_Reader_takeInt rfl sh_3 (by decide) (by decide) rfl rfl (Nat.le_of_ble_eq_true rfl) ?_
      obtain ⟨r23, M24, hq22, h⟩ := bnd2 h
      refine f_Reader_takeInt hld  hq22 ?_
      dsimp only [psh]
      refine g_callS0 (pc1 := 79) (As := [.ref (Ld1 + 3), .int ((v2 * 3) + v3), .int r23]) (rest := []) d_Reader_takeFood_76 rfl mo_Reader_138 ms_Main_put (by decide) rfl rfl (Nat.le_of_ble_eq_true rfl) ?_
      obtain ⟨M26, hq25, h⟩ := bnd h
      refine f_Main_put hld (shLa_3 hLd1) (ltLa_3 hLd1) (by decide) hq25 ?_
      dsimp only [psh]
      obtain ⟨x27, ex27, h⟩ := ltI h
      refine g_iinc (pc1 := 82) (v := x27) (lv' := [(0, .ref 3), (1, .ref Ld1), (2, .int v2), (3, .int x27)]) d_Reader_takeFood_79 rfl 3 rfl (by rw [ex27]; rfl) (by decide) [1, 2, 3, 0] rfl ?_
      refine g_goto (tgt := 56) d_Reader_takeFood_82 (by decide) ?_
      exact hK56 x27 M26 h
def F_Reader_takeFood (Ld1 : Nat) (M : gM) (L : gL) : Option (gM × gL) :=
  nmI (M Ld1 0) (fun x1 => (if x1 < 6 then bI (F_Reader_take M) (fun M4 => bI2 (F_Reader_takeNewName x1 M4 L) (fun M6 L7 => bI2 (F_Reader_takeInt 99 M6 L7) (fun r9 M10 => bI (F_Main_put (Ld1 + 1) 6 x1 r9 M10) (fun M12 => bI2 (F_Reader_takeInt 9 M12 L7) (fun r14 M15 => bI (F_Main_put (Ld1 + 2) 6 x1 r14 M15) (fun M17 => H_Reader_takeFood_56 Ld1 x1 L7 FU 0 M17)))))) else bI (F_Reader_stop 2 M) (fun M29 => some (M29, L))))
set_option maxHeartbeats 4000000 in
set_option maxRecDepth 20000 in
theorem f_Reader_takeFood {l : Launch} {ld : Nat} {M : gM} {L : gL} {Q : Option Value → gM → gL → gR → Prop} (hld : isLa ld) {Ld1 : Nat} (hLd1 : isLa Ld1) {q : gM × gL} (h : F_Reader_takeFood Ld1 M L = some q) (hQ : Q none q.1 q.2 (rf ld)) : Tm l y_Reader_takeFood (0, 0, 447) 447 [.ref 3, .ref Ld1] M L (rf ld) Q := by
  refine Tm.of (by decide) (Nat.le_of_ble_eq_true rfl) ?_
  show Wp l y_Reader_takeFood (0, 0, 447) 447 0 0 0 [(0, .ref 3), (1, .ref Ld1)] [] M L (rf ld) Q
  unfold F_Reader_takeFood at h
  refine g_aload_n (pc1 := 1) d_Reader_takeFood_0 rfl 1 rfl ?_
  refine g_geti (pc1 := 4) d_Reader_takeFood_1 rfl ⟨_, fo_Reader_125⟩ (shLa_0 hLd1) (ltLa_0 hLd1) ?_
  refine Wp.lI h (fun x1 h => ?_)
  refine g_istore_n (pc1 := 5) (lv' := [(0, .ref 3), (1, .ref Ld1), (2, .int x1)]) d_Reader_takeFood_4 rfl rfl (by decide) [1, 2, 0] rfl ?_
  refine g_iload_n (pc1 := 6) d_Reader_takeFood_5 rfl 2 rfl ?_
  refine g_bipush (pc1 := 8) (v := 6) d_Reader_takeFood_6 rfl (by decide) ?_
  refine g_icmp_lt (pc1 := 11) (tgt := 17) d_Reader_takeFood_8 (by decide) rfl (fun c2 => ?_) (fun c2 => ?_)
  · replace h := itp h c2
    refine g_aload_n (pc1 := 18) d_Reader_takeFood_17 rfl 0 rfl ?_
    refine g_callV0 (pc1 := 21) (As := []) (rest := []) d_Reader_takeFood_18 rfl mo_Reader_108 mi_Reader_take mv_Reader_take rfl sh_3 (by decide) (by decide) rfl rfl (Nat.le_of_ble_eq_true rfl) ?_
    obtain ⟨M4, hq3, h⟩ := bnd h
    refine f_Reader_take hld  hq3 ?_
    dsimp only [psh]
    refine g_aload_n (pc1 := 22) d_Reader_takeFood_21 rfl 0 rfl ?_
    refine g_iload_n (pc1 := 23) d_Reader_takeFood_22 rfl 2 rfl ?_
    refine g_callV0 (pc1 := 26) (As := [.int x1]) (rest := []) d_Reader_takeFood_23 rfl mo_Reader_128 mi_Reader_takeNewName mv_Reader_takeNewName rfl sh_3 (by decide) (by decide) rfl rfl (Nat.le_of_ble_eq_true rfl) ?_
    obtain ⟨M6, L7, hq5, h⟩ := bnd2 h
    refine f_Reader_takeNewName hld  hq5 ?_
    dsimp only [psh]
    refine g_aload_n (pc1 := 27) d_Reader_takeFood_26 rfl 1 rfl ?_
    refine g_getr (pc1 := 30) d_Reader_takeFood_27 rfl ⟨_, fo_Reader_131⟩ (shLa_0 hLd1) (ltLa_0 hLd1) (rfLa_5 ld hLd1) ?_
    refine g_iload_n (pc1 := 31) d_Reader_takeFood_30 rfl 2 rfl ?_
    refine g_aload_n (pc1 := 32) d_Reader_takeFood_31 rfl 0 rfl ?_
    refine g_bipush (pc1 := 34) (v := 99) d_Reader_takeFood_32 rfl (by decide) ?_
    refine g_callV0 (pc1 := 37) (As := [.int 99]) (rest := [.int x1, .ref (Ld1 + 1)]) d_Reader_takeFood_34 rfl mo_Reader_134 mi_Reader_takeInt mv_Reader_takeInt rfl sh_3 (by decide) (by decide) rfl rfl (Nat.le_of_ble_eq_true rfl) ?_
    obtain ⟨r9, M10, hq8, h⟩ := bnd2 h
    refine f_Reader_takeInt hld  hq8 ?_
    dsimp only [psh]
    refine g_callS0 (pc1 := 40) (As := [.ref (Ld1 + 1), .int x1, .int r9]) (rest := []) d_Reader_takeFood_37 rfl mo_Reader_138 ms_Main_put (by decide) rfl rfl (Nat.le_of_ble_eq_true rfl) ?_
    obtain ⟨M12, hq11, h⟩ := bnd h
    refine f_Main_put hld (shLa_1 hLd1) (ltLa_1 hLd1) (by decide) hq11 ?_
    dsimp only [psh]
    refine g_aload_n (pc1 := 41) d_Reader_takeFood_40 rfl 1 rfl ?_
    refine g_getr (pc1 := 44) d_Reader_takeFood_41 rfl ⟨_, fo_Reader_142⟩ (shLa_0 hLd1) (ltLa_0 hLd1) (rfLa_6 ld hLd1) ?_
    refine g_iload_n (pc1 := 45) d_Reader_takeFood_44 rfl 2 rfl ?_
    refine g_aload_n (pc1 := 46) d_Reader_takeFood_45 rfl 0 rfl ?_
    refine g_bipush (pc1 := 48) (v := 9) d_Reader_takeFood_46 rfl (by decide) ?_
    refine g_callV0 (pc1 := 51) (As := [.int 9]) (rest := [.int x1, .ref (Ld1 + 2)]) d_Reader_takeFood_48 rfl mo_Reader_134 mi_Reader_takeInt mv_Reader_takeInt rfl sh_3 (by decide) (by decide) rfl rfl (Nat.le_of_ble_eq_true rfl) ?_
    obtain ⟨r14, M15, hq13, h⟩ := bnd2 h
    refine f_Reader_takeInt hld  hq13 ?_
    dsimp only [psh]
    refine g_callS0 (pc1 := 54) (As := [.ref (Ld1 + 2), .int x1, .int r14]) (rest := []) d_Reader_takeFood_51 rfl mo_Reader_138 ms_Main_put (by decide) rfl rfl (Nat.le_of_ble_eq_true rfl) ?_
    obtain ⟨M17, hq16, h⟩ := bnd h
    refine f_Main_put hld (shLa_2 hLd1) (ltLa_2 hLd1) (by decide) hq16 ?_
    dsimp only [psh]
    refine g_iconst (pc1 := 55) (v := 0) d_Reader_takeFood_54 rfl (by decide) ?_
    refine g_istore_n (pc1 := 56) (lv' := [(0, .ref 3), (1, .ref Ld1), (2, .int x1), (3, .int 0)]) d_Reader_takeFood_55 rfl rfl (by decide) [1, 2, 3, 0] rfl ?_
    exact h_Reader_takeFood_56 hld hLd1 hQ  _ 0 M17 h
  · replace h := itn h c2
    refine g_aload_n (pc1 := 12) d_Reader_takeFood_11 rfl 0 rfl ?_
    refine g_iconst (pc1 := 13) (v := 2) d_Reader_takeFood_12 rfl (by decide) ?_
    refine g_callV0 (pc1 := 16) (As := [.int 2]) (rest := []) d_Reader_takeFood_13 rfl mo_Reader_95 mi_Reader_stop mv_Reader_stop rfl sh_3 (by decide) (by decide) rfl rfl (Nat.le_of_ble_eq_true rfl) ?_
    obtain ⟨M29, hq28, h⟩ := bnd h
    refine f_Reader_stop hld  hq28 ?_
    dsimp only [psh]
    refine g_return rfl d_Reader_takeFood_16 rfl ?_
    cases h; exact hQ
end MG4x2
section MG4x3
def F_Reader_takeGuest (Ld1 : Nat) (M : gM) (L : gL) : Option (gM × gL) :=
  nmI (M Ld1 2) (fun x1 => (if x1 < 4 then bI (F_Reader_take M) (fun M4 => bI2 (F_Reader_takeNewName (-1) M4 L) (fun M6 L7 => bI2 (F_Reader_takeInt 9 M6 L7) (fun r9 M10 => bI (F_Main_put (Ld1 + 6) 4 x1 r9 M10) (fun M12 => bI (F_Reader_need 59 M12) (fun M14 => nmM (uM M14 Ld1 2 (x1 + 1)) (fun M15 => some (M15, L7))))))) else bI (F_Reader_stop 2 M) (fun M17 => some (M17, L))))
set_option maxHeartbeats 4000000 in
set_option maxRecDepth 20000 in
theorem f_Reader_takeGuest {l : Launch} {ld : Nat} {M : gM} {L : gL} {Q : Option Value → gM → gL → gR → Prop} (hld : isLa ld) {Ld1 : Nat} (hLd1 : isLa Ld1) {q : gM × gL} (h : F_Reader_takeGuest Ld1 M L = some q) (hQ : Q none q.1 q.2 (rf ld)) : Tm l y_Reader_takeGuest (0, 0, 447) 447 [.ref 3, .ref Ld1] M L (rf ld) Q := by
  refine Tm.of (by decide) (Nat.le_of_ble_eq_true rfl) ?_
  show Wp l y_Reader_takeGuest (0, 0, 447) 447 0 0 0 [(0, .ref 3), (1, .ref Ld1)] [] M L (rf ld) Q
  unfold F_Reader_takeGuest at h
  refine g_aload_n (pc1 := 1) d_Reader_takeGuest_0 rfl 1 rfl ?_
  refine g_geti (pc1 := 4) d_Reader_takeGuest_1 rfl ⟨_, fo_Reader_165⟩ (shLa_0 hLd1) (ltLa_0 hLd1) ?_
  refine Wp.lI h (fun x1 h => ?_)
  refine g_istore_n (pc1 := 5) (lv' := [(0, .ref 3), (1, .ref Ld1), (2, .int x1)]) d_Reader_takeGuest_4 rfl rfl (by decide) [1, 2, 0] rfl ?_
  refine g_iload_n (pc1 := 6) d_Reader_takeGuest_5 rfl 2 rfl ?_
  refine g_iconst (pc1 := 7) (v := 4) d_Reader_takeGuest_6 rfl (by decide) ?_
  refine g_icmp_lt (pc1 := 10) (tgt := 16) d_Reader_takeGuest_7 (by decide) rfl (fun c2 => ?_) (fun c2 => ?_)
  · replace h := itp h c2
    refine g_aload_n (pc1 := 17) d_Reader_takeGuest_16 rfl 0 rfl ?_
    refine g_callV0 (pc1 := 20) (As := []) (rest := []) d_Reader_takeGuest_17 rfl mo_Reader_108 mi_Reader_take mv_Reader_take rfl sh_3 (by decide) (by decide) rfl rfl (Nat.le_of_ble_eq_true rfl) ?_
    obtain ⟨M4, hq3, h⟩ := bnd h
    refine f_Reader_take hld  hq3 ?_
    dsimp only [psh]
    refine g_aload_n (pc1 := 21) d_Reader_takeGuest_20 rfl 0 rfl ?_
    refine g_iconst (pc1 := 22) (v := (-1)) d_Reader_takeGuest_21 rfl (by decide) ?_
    refine g_callV0 (pc1 := 25) (As := [.int (-1)]) (rest := []) d_Reader_takeGuest_22 rfl mo_Reader_128 mi_Reader_takeNewName mv_Reader_takeNewName rfl sh_3 (by decide) (by decide) rfl rfl (Nat.le_of_ble_eq_true rfl) ?_
    obtain ⟨M6, L7, hq5, h⟩ := bnd2 h
    refine f_Reader_takeNewName hld  hq5 ?_
    dsimp only [psh]
    refine g_aload_n (pc1 := 26) d_Reader_takeGuest_25 rfl 1 rfl ?_
    refine g_getr (pc1 := 29) d_Reader_takeGuest_26 rfl ⟨_, fo_Reader_168⟩ (shLa_0 hLd1) (ltLa_0 hLd1) (rfLa_10 ld hLd1) ?_
    refine g_iload_n (pc1 := 30) d_Reader_takeGuest_29 rfl 2 rfl ?_
    refine g_aload_n (pc1 := 31) d_Reader_takeGuest_30 rfl 0 rfl ?_
    refine g_bipush (pc1 := 33) (v := 9) d_Reader_takeGuest_31 rfl (by decide) ?_
    refine g_callV0 (pc1 := 36) (As := [.int 9]) (rest := [.int x1, .ref (Ld1 + 6)]) d_Reader_takeGuest_33 rfl mo_Reader_134 mi_Reader_takeInt mv_Reader_takeInt rfl sh_3 (by decide) (by decide) rfl rfl (Nat.le_of_ble_eq_true rfl) ?_
    obtain ⟨r9, M10, hq8, h⟩ := bnd2 h
    refine f_Reader_takeInt hld  hq8 ?_
    dsimp only [psh]
    refine g_callS0 (pc1 := 39) (As := [.ref (Ld1 + 6), .int x1, .int r9]) (rest := []) d_Reader_takeGuest_36 rfl mo_Reader_138 ms_Main_put (by decide) rfl rfl (Nat.le_of_ble_eq_true rfl) ?_
    obtain ⟨M12, hq11, h⟩ := bnd h
    refine f_Main_put hld (shLa_6 hLd1) (ltLa_6 hLd1) (by decide) hq11 ?_
    dsimp only [psh]
    refine g_aload_n (pc1 := 40) d_Reader_takeGuest_39 rfl 0 rfl ?_
    refine g_bipush (pc1 := 42) (v := 59) d_Reader_takeGuest_40 rfl (by decide) ?_
    refine g_callV0 (pc1 := 45) (As := [.int 59]) (rest := []) d_Reader_takeGuest_42 rfl mo_Reader_118 mi_Reader_need mv_Reader_need rfl sh_3 (by decide) (by decide) rfl rfl (Nat.le_of_ble_eq_true rfl) ?_
    obtain ⟨M14, hq13, h⟩ := bnd h
    refine f_Reader_need hld  hq13 ?_
    dsimp only [psh]
    refine g_aload_n (pc1 := 46) d_Reader_takeGuest_45 rfl 1 rfl ?_
    refine g_iload_n (pc1 := 47) d_Reader_takeGuest_46 rfl 2 rfl ?_
    refine g_iconst (pc1 := 48) (v := 1) d_Reader_takeGuest_47 rfl (by decide) ?_
    refine g_iadd (pc1 := 49) d_Reader_takeGuest_48 rfl ?_
    refine g_puti (pc1 := 52) d_Reader_takeGuest_49 rfl fo_Reader_165 (po_4_2 _) (shLa_0 hLd1) (ltLa_0 hLd1) ?_
    refine Wp.lM h (fun M15 h => ?_)
    refine g_return rfl d_Reader_takeGuest_52 rfl ?_
    cases h; exact hQ
  · replace h := itn h c2
    refine g_aload_n (pc1 := 11) d_Reader_takeGuest_10 rfl 0 rfl ?_
    refine g_iconst (pc1 := 12) (v := 2) d_Reader_takeGuest_11 rfl (by decide) ?_
    refine g_callV0 (pc1 := 15) (As := [.int 2]) (rest := []) d_Reader_takeGuest_12 rfl mo_Reader_95 mi_Reader_stop mv_Reader_stop rfl sh_3 (by decide) (by decide) rfl rfl (Nat.le_of_ble_eq_true rfl) ?_
    obtain ⟨M17, hq16, h⟩ := bnd h
    refine f_Reader_stop hld  hq16 ?_
    dsimp only [psh]
    refine g_return rfl d_Reader_takeGuest_15 rfl ?_
    cases h; exact hQ

def J_Reader_takeLaw_106 (Wl1 : Nat) (M : gM) (L : gL) : Option (gM) :=
  bI (F_Reader_takeSum Wl1 M L) (fun M9 => bI (F_Reader_need 59 M9) (fun M11 => some M11))
set_option maxHeartbeats 4000000 in
set_option maxRecDepth 20000 in
theorem j_Reader_takeLaw_106 {l : Launch} {ld : Nat} {Q : Option Value → gM → gL → gR → Prop} (hld : isLa ld) {Wl1 : Nat} (hWl1 : isLw Wl1) {q : gM} {M : gM} {L : gL} (hQ : Q none q L (rf ld))    (h : J_Reader_takeLaw_106 Wl1 M L = some q) : Wp l y_Reader_takeLaw (0, 0, 447) 447 0 0 106 [(0, .ref 3), (1, .ref Wl1)] [] M L (rf ld) Q := by
  unfold J_Reader_takeLaw_106 at h
  refine g_aload_n (pc1 := 107) d_Reader_takeLaw_106 rfl 0 rfl ?_
  refine g_aload_n (pc1 := 108) d_Reader_takeLaw_107 rfl 1 rfl ?_
  refine g_callV0 (pc1 := 111) (As := [.ref Wl1]) (rest := []) d_Reader_takeLaw_108 rfl mo_Reader_186 mi_Reader_takeSum mv_Reader_takeSum rfl sh_3 (by decide) (by decide) rfl rfl (Nat.le_of_ble_eq_true rfl) ?_
  obtain ⟨M9, hq8, h⟩ := bnd h
  refine f_Reader_takeSum hld hWl1 hq8 ?_
  dsimp only [psh]
  refine g_aload_n (pc1 := 112) d_Reader_takeLaw_111 rfl 0 rfl ?_
  refine g_bipush (pc1 := 114) (v := 59) d_Reader_takeLaw_112 rfl (by decide) ?_
  refine g_callV0 (pc1 := 117) (As := [.int 59]) (rest := []) d_Reader_takeLaw_114 rfl mo_Reader_118 mi_Reader_need mv_Reader_need rfl sh_3 (by decide) (by decide) rfl rfl (Nat.le_of_ble_eq_true rfl) ?_
  obtain ⟨M11, hq10, h⟩ := bnd h
  refine f_Reader_need hld  hq10 ?_
  dsimp only [psh]
  refine g_return rfl d_Reader_takeLaw_117 rfl ?_
  cases h; exact hQ
def J_Reader_takeLaw_43 (Wl1 : Nat) (M : gM) (L : gL) : Option (gM) :=
  bI (F_Reader_stop 2 M) (fun M38 => J_Reader_takeLaw_106 Wl1 M38 L)
set_option maxHeartbeats 4000000 in
set_option maxRecDepth 20000 in
theorem j_Reader_takeLaw_43 {l : Launch} {ld : Nat} {Q : Option Value → gM → gL → gR → Prop} (hld : isLa ld) {Wl1 : Nat} (hWl1 : isLw Wl1) {q : gM} {M : gM} {L : gL} (hQ : Q none q L (rf ld))    (h : J_Reader_takeLaw_43 Wl1 M L = some q) : Wp l y_Reader_takeLaw (0, 0, 447) 447 0 0 43 [(0, .ref 3), (1, .ref Wl1)] [] M L (rf ld) Q := by
  unfold J_Reader_takeLaw_43 at h
  refine g_aload_n (pc1 := 44) d_Reader_takeLaw_43 rfl 0 rfl ?_
  refine g_iconst (pc1 := 45) (v := 2) d_Reader_takeLaw_44 rfl (by decide) ?_
  refine g_callV0 (pc1 := 48) (As := [.int 2]) (rest := []) d_Reader_takeLaw_45 rfl mo_Reader_95 mi_Reader_stop mv_Reader_stop rfl sh_3 (by decide) (by decide) rfl rfl (Nat.le_of_ble_eq_true rfl) ?_
  obtain ⟨M38, hq37, h⟩ := bnd h
  refine f_Reader_stop hld  hq37 ?_
  dsimp only [psh]
  refine g_goto (tgt := 106) d_Reader_takeLaw_48 (by decide) ?_
  exact j_Reader_takeLaw_106 hld hWl1 hQ  h
def B_Reader_takeLaw_16 (Wl1 : Nat) (L : gL) (K16 : Int32 → gM → Option (gM)) : Int32 → gM → Option (gM) := fun v2 M =>
  (if 4 < v2 then J_Reader_takeLaw_106 Wl1 M L else (if (M 3 2) = 0 then bI (F_Reader_is 137 M) (fun r14 => (if r14 = 0 then J_Reader_takeLaw_106 Wl1 M L else (if v2 = 4 then J_Reader_takeLaw_43 Wl1 M L else bI (F_Reader_take M) (fun M18 => bI (F_Reader_takeSum Wl1 M18 L) (fun M20 => bI (F_Reader_need 60 M20) (fun M22 => bI (F_Reader_takeSum Wl1 M22 L) (fun M24 => bI (F_Reader_need 138 M24) (fun M26 => bI2 (F_Law_openIf Wl1 M26) (fun r28 M29 => bI (F_Reader_takeSum Wl1 M29 L) (fun M31 => bI (F_Reader_need 139 M31) (fun M33 => bI (F_Law_closeIf Wl1 r28 M33) (fun M35 => nmI (v2 + 1) (fun x36 => K16 x36 M35))))))))))))) else J_Reader_takeLaw_106 Wl1 M L))
def H_Reader_takeLaw_16 (Wl1 : Nat) (L : gL) : Nat → Int32 → gM → Option (gM) := lpK (B_Reader_takeLaw_16 Wl1 L) (fun _ _ => none)
set_option maxHeartbeats 4000000 in
set_option maxRecDepth 20000 in
theorem h_Reader_takeLaw_16 {l : Launch} {ld : Nat} {Q : Option Value → gM → gL → gR → Prop} (hld : isLa ld) {Wl1 : Nat} (hWl1 : isLw Wl1) {q : gM} {L : gL} (hQ : Q none q L (rf ld))    : ∀ (f : Nat) (v2 : Int32) (M : gM), H_Reader_takeLaw_16 Wl1 L f v2 M = some q → Wp l y_Reader_takeLaw (0, 0, 447) 447 0 0 16 [(0, .ref 3), (1, .ref Wl1), (2, .int v2)] [] M L (rf ld) Q := by
  intro f
  induction f with
  | zero => intro v2 M h; cases h
  | succ f hK16 =>
    intro v2 M h
    replace h : B_Reader_takeLaw_16 Wl1 L (H_Reader_takeLaw_16 Wl1 L f) v2 M = some q := h
    unfold B_Reader_takeLaw_16 at h
    refine g_iload_n (pc1 := 17) d_Reader_takeLaw_16 rfl 2 rfl ?_
    refine g_iconst (pc1 := 18) (v := 4) d_Reader_takeLaw_17 rfl (by decide) ?_
    refine g_icmp_gt (pc1 := 21) (tgt := 106) d_Reader_takeLaw_18 (by decide) rfl (fun c7 => ?_) (fun c7 => ?_)
    · replace h := itp h c7
      refine Wp.loc (lv' := [(0, .ref 3), (1, .ref Wl1)]) [0, 1] rfl ?_
      exact j_Reader_takeLaw_106 hld hWl1 hQ  h
    · replace h := itn h c7
      refine g_aload_n (pc1 := 22) d_Reader_takeLaw_21 rfl 0 rfl ?_
      refine g_geti (pc1 := 25) d_Reader_takeLaw_22 rfl ⟨_, fo_Reader_42⟩ sh_3 (by decide) ?_
      refine g_if_ne (pc1 := 28) (tgt := 106) d_Reader_takeLaw_25 (by decide) rfl (fun c12 => ?_) (fun c12 => ?_)
      · replace h := itn h c12
        refine Wp.loc (lv' := [(0, .ref 3), (1, .ref Wl1)]) [0, 1] rfl ?_
        exact j_Reader_takeLaw_106 hld hWl1 hQ  h
      · replace h := itp h c12
        refine g_aload_n (pc1 := 29) d_Reader_takeLaw_28 rfl 0 rfl ?_
        refine g_sipush (pc1 := 32) (v := 137) d_Reader_takeLaw_29 rfl (by decide) ?_
        refine g_callV0 (pc1 := 35) (As := [.int 137]) (rest := []) d_Reader_takeLaw_32 rfl mo_Reader_51 mi_Reader_is mv_Reader_is rfl sh_3 (by decide) (by decide) rfl rfl (Nat.le_of_ble_eq_true rfl) ?_
        obtain ⟨r14, hq13, h⟩ := bnd h
        refine f_Reader_is hld  hq13 ?_
        dsimp only [psh]
        refine g_if_eq (pc1 := 38) (tgt := 106) d_Reader_takeLaw_35 (by decide) rfl (fun c15 => ?_) (fun c15 => ?_)
        · replace h := itp h c15
          refine Wp.loc (lv' := [(0, .ref 3), (1, .ref Wl1)]) [0, 1] rfl ?_
          exact j_Reader_takeLaw_106 hld hWl1 hQ  h
        · replace h := itn h c15
          refine g_iload_n (pc1 := 39) d_Reader_takeLaw_38 rfl 2 rfl ?_
          refine g_iconst (pc1 := 40) (v := 4) d_Reader_takeLaw_39 rfl (by decide) ?_
          refine g_icmp_ne (pc1 := 43) (tgt := 51) d_Reader_takeLaw_40 (by decide) rfl (fun c16 => ?_) (fun c16 => ?_)
          · replace h := itn h c16
            refine g_aload_n (pc1 := 52) d_Reader_takeLaw_51 rfl 0 rfl ?_
            refine g_callV0 (pc1 := 55) (As := []) (rest := []) d_Reader_takeLaw_52 rfl mo_Reader_108 mi_Reader_take mv_Reader_take rfl sh_3 (by decide) (by decide) rfl rfl (Nat.le_of_ble_eq_true rfl) ?_
            obtain ⟨M18, hq17, h⟩ := bnd h
            refine f_Reader_take hld  hq17 ?_
            dsimp only [psh]
            refine g_aload_n (pc1 := 56) d_Reader_takeLaw_55 rfl 0 rfl ?_
            refine g_aload_n (pc1 := 57) d_Reader_takeLaw_56 rfl 1 rfl ?_
            refine g_callV0 (pc1 := 60) (As := [.ref Wl1]) (rest := []) d_Reader_takeLaw_57 rfl mo_Reader_186 mi_Reader_takeSum mv_Reader_takeSum rfl sh_3 (by decide) (by decide) rfl rfl (Nat.le_of_ble_eq_true rfl) ?_
            obtain ⟨M20, hq19, h⟩ := bnd h
            refine f_Reader_takeSum hld hWl1 hq19 ?_
            dsimp only [psh]
            refine g_aload_n (pc1 := 61) d_Reader_takeLaw_60 rfl 0 rfl ?_
            refine g_bipush (pc1 := 63) (v := 60) d_Reader_takeLaw_61 rfl (by decide) ?_
            refine g_callV0 (pc1 := 66) (As := [.int 60]) (rest := []) d_Reader_takeLaw_63 rfl mo_Reader_118 mi_Reader_need mv_Reader_need rfl sh_3 (by decide) (by decide) rfl rfl (Nat.le_of_ble_eq_true rfl) ?_
            obtain ⟨M22, hq21, h⟩ := bnd h
            refine f_Reader_need hld  hq21 ?_
            dsimp only [psh]
            refine g_aload_n (pc1 := 67) d_Reader_takeLaw_66 rfl 0 rfl ?_
            refine g_aload_n (pc1 := 68) d_Reader_takeLaw_67 rfl 1 rfl ?_
            refine g_callV0 (pc1 := 71) (As := [.ref Wl1]) (rest := []) d_Reader_takeLaw_68 rfl mo_Reader_186 mi_Reader_takeSum mv_Reader_takeSum rfl sh_3 (by decide) (by decide) rfl rfl (Nat.le_of_ble_eq_true rfl) ?_
            obtain ⟨M24, hq23, h⟩ := bnd h
            refine f_Reader_takeSum hld hWl1 hq23 ?_
            dsimp only [psh]
            refine g_aload_n (pc1 := 72) d_Reader_takeLaw_71 rfl 0 rfl ?_
            refine g_sipush (pc1 := 75) (v := 138) d_Reader_takeLaw_72 rfl (by decide) ?_
            refine g_callV0 (pc1 := 78) (As := [.int 138]) (rest := []) d_Reader_takeLaw_75 rfl mo_Reader_118 mi_Reader_need mv_Reader_need rfl sh_3 (by decide) (by decide) rfl rfl (Nat.le_of_ble_eq_true rfl) ?_
            obtain ⟨M26, hq25, h⟩ := bnd h
            refine f_Reader_need hld  hq25 ?_
            dsimp only [psh]
            refine g_aload_n (pc1 := 79) d_Reader_takeLaw_78 rfl 1 rfl ?_
            refine g_callV0 (pc1 := 82) (As := []) (rest := []) d_Reader_takeLaw_79 rfl mo_Reader_189 mi_Law_openIf mv_Law_openIf rfl (shLw_0 hWl1) (ltLw_0 hWl1) (by decide) rfl rfl (Nat.le_of_ble_eq_true rfl) ?_
            obtain ⟨r28, M29, hq27, h⟩ := bnd2 h
            refine f_Law_openIf hld hWl1 hq27 ?_
            dsimp only [psh]
            refine g_istore_n (pc1 := 83) (lv' := [(0, .ref 3), (1, .ref Wl1), (2, .int v2), (3, .int r28)]) d_Reader_takeLaw_82 rfl rfl (by decide) [1, 2, 3, 0] rfl ?_
            refine g_aload_n (pc1 := 84) d_Reader_takeLaw_83 rfl 0 rfl ?_
            refine g_aload_n (pc1 := 85) d_Reader_takeLaw_84 rfl 1 rfl ?_
            refine g_callV0 (pc1 := 88) (As := [.ref Wl1]) (rest := []) d_Reader_takeLaw_85 rfl mo_Reader_186 mi_Reader_takeSum mv_Reader_takeSum rfl sh_3 (by decide) (by decide) rfl rfl (Nat.le_of_ble_eq_true rfl) ?_
            obtain ⟨M31, hq30, h⟩ := bnd h
            refine f_Reader_takeSum hld hWl1 hq30 ?_
            dsimp only [psh]
            refine g_aload_n (pc1 := 89) d_Reader_takeLaw_88 rfl 0 rfl ?_
            refine g_sipush (pc1 := 92) (v := 139) d_Reader_takeLaw_89 rfl (by decide) ?_
            refine g_callV0 (pc1 := 95) (As := [.int 139]) (rest := []) d_Reader_takeLaw_92 rfl mo_Reader_118 mi_Reader_need mv_Reader_need rfl sh_3 (by decide) (by decide) rfl rfl (Nat.le_of_ble_eq_true rfl) ?_
            obtain ⟨M33, hq32, h⟩ := bnd h
            refine f_Reader_need hld  hq32 ?_
            dsimp only [psh]
            refine g_aload_n (pc1 := 96) d_Reader_takeLaw_95 rfl 1 rfl ?_
            refine g_iload_n (pc1 := 97) d_Reader_takeLaw_96 rfl 3 rfl ?_
            refine g_callV0 (pc1 := 100) (As := [.int r28]) (rest := []) d_Reader_takeLaw_97 rfl mo_Reader_193 mi_Law_closeIf mv_Law_closeIf rfl (shLw_0 hWl1) (ltLw_0 hWl1) (by decide) rfl rfl (Nat.le_of_ble_eq_true rfl) ?_
            obtain ⟨M35, hq34, h⟩ := bnd h
            refine f_Law_closeIf hld hWl1 hq34 ?_
            dsimp only [psh]
            obtain ⟨x36, ex36, h⟩ := ltI h
            refine g_iinc (pc1 := 103) (v := x36) (lv' := [(0, .ref 3), (1, .ref Wl1), (2, .int x36), (3, .int r28)]) d_Reader_takeLaw_100 rfl 2 rfl (by rw [ex36]; rfl) (by decide) [1, 2, 0, 3] rfl ?_
            refine g_goto (tgt := 16) d_Reader_takeLaw_103 (by decide) ?_
            refine Wp.loc (lv' := [(0, .ref 3), (1, .ref Wl1), (2, .int x36)]) [0, 1, 2] rfl ?_
            exact hK16 x36 M35 h
          · replace h := itp h c16
            refine Wp.loc (lv' := [(0, .ref 3), (1, .ref Wl1)]) [0, 1] rfl ?_
            exact j_Reader_takeLaw_43 hld hWl1 hQ  h
def F_Reader_takeLaw (Wl1 : Nat) (M : gM) (L : gL) : Option (gM) :=
  bI (F_Law_clear Wl1 M) (fun M2 => bI (F_Reader_take M2) (fun M4 => bI (F_Reader_need 61 M4) (fun M6 => H_Reader_takeLaw_16 Wl1 L FU 0 M6)))
set_option maxHeartbeats 4000000 in
set_option maxRecDepth 20000 in
theorem f_Reader_takeLaw {l : Launch} {ld : Nat} {M : gM} {L : gL} {Q : Option Value → gM → gL → gR → Prop} (hld : isLa ld) {Wl1 : Nat} (hWl1 : isLw Wl1) {q : gM} (h : F_Reader_takeLaw Wl1 M L = some q) (hQ : Q none q L (rf ld)) : Tm l y_Reader_takeLaw (0, 0, 447) 447 [.ref 3, .ref Wl1] M L (rf ld) Q := by
  refine Tm.of (by decide) (Nat.le_of_ble_eq_true rfl) ?_
  show Wp l y_Reader_takeLaw (0, 0, 447) 447 0 0 0 [(0, .ref 3), (1, .ref Wl1)] [] M L (rf ld) Q
  unfold F_Reader_takeLaw at h
  refine g_aload_n (pc1 := 1) d_Reader_takeLaw_0 rfl 1 rfl ?_
  refine g_callV0 (pc1 := 4) (As := []) (rest := []) d_Reader_takeLaw_1 rfl mo_Reader_183 mi_Law_clear mv_Law_clear rfl (shLw_0 hWl1) (ltLw_0 hWl1) (by decide) rfl rfl (Nat.le_of_ble_eq_true rfl) ?_
  obtain ⟨M2, hq1, h⟩ := bnd h
  refine f_Law_clear hld hWl1 hq1 ?_
  dsimp only [psh]
  refine g_aload_n (pc1 := 5) d_Reader_takeLaw_4 rfl 0 rfl ?_
  refine g_callV0 (pc1 := 8) (As := []) (rest := []) d_Reader_takeLaw_5 rfl mo_Reader_108 mi_Reader_take mv_Reader_take rfl sh_3 (by decide) (by decide) rfl rfl (Nat.le_of_ble_eq_true rfl) ?_
  obtain ⟨M4, hq3, h⟩ := bnd h
  refine f_Reader_take hld  hq3 ?_
  dsimp only [psh]
  refine g_aload_n (pc1 := 9) d_Reader_takeLaw_8 rfl 0 rfl ?_
  refine g_bipush (pc1 := 11) (v := 61) d_Reader_takeLaw_9 rfl (by decide) ?_
  refine g_callV0 (pc1 := 14) (As := [.int 61]) (rest := []) d_Reader_takeLaw_11 rfl mo_Reader_118 mi_Reader_need mv_Reader_need rfl sh_3 (by decide) (by decide) rfl rfl (Nat.le_of_ble_eq_true rfl) ?_
  obtain ⟨M6, hq5, h⟩ := bnd h
  refine f_Reader_need hld  hq5 ?_
  dsimp only [psh]
  refine g_iconst (pc1 := 15) (v := 0) d_Reader_takeLaw_14 rfl (by decide) ?_
  refine g_istore_n (pc1 := 16) (lv' := [(0, .ref 3), (1, .ref Wl1), (2, .int 0)]) d_Reader_takeLaw_15 rfl rfl (by decide) [1, 2, 0] rfl ?_
  exact h_Reader_takeLaw_16 hld hWl1 hQ  _ 0 M6 h

def F_Reader_takeSeed (Ld1 : Nat) (M : gM) (L : gL) : Option (gM) :=
  bI (F_Reader_take M) (fun M2 => bI2 (F_Reader_takeInt 9999 M2 L) (fun r4 M5 => nmM (uM M5 Ld1 4 r4) (fun M6 => bI (F_Reader_need 59 M6) (fun M8 => some M8))))
set_option maxHeartbeats 4000000 in
set_option maxRecDepth 20000 in
theorem f_Reader_takeSeed {l : Launch} {ld : Nat} {M : gM} {L : gL} {Q : Option Value → gM → gL → gR → Prop} (hld : isLa ld) {Ld1 : Nat} (hLd1 : isLa Ld1) {q : gM} (h : F_Reader_takeSeed Ld1 M L = some q) (hQ : Q none q L (rf ld)) : Tm l y_Reader_takeSeed (0, 0, 447) 447 [.ref 3, .ref Ld1] M L (rf ld) Q := by
  refine Tm.of (by decide) (Nat.le_of_ble_eq_true rfl) ?_
  show Wp l y_Reader_takeSeed (0, 0, 447) 447 0 0 0 [(0, .ref 3), (1, .ref Ld1)] [] M L (rf ld) Q
  unfold F_Reader_takeSeed at h
  refine g_aload_n (pc1 := 1) d_Reader_takeSeed_0 rfl 0 rfl ?_
  refine g_callV0 (pc1 := 4) (As := []) (rest := []) d_Reader_takeSeed_1 rfl mo_Reader_108 mi_Reader_take mv_Reader_take rfl sh_3 (by decide) (by decide) rfl rfl (Nat.le_of_ble_eq_true rfl) ?_
  obtain ⟨M2, hq1, h⟩ := bnd h
  refine f_Reader_take hld  hq1 ?_
  dsimp only [psh]
  refine g_aload_n (pc1 := 5) d_Reader_takeSeed_4 rfl 1 rfl ?_
  refine g_aload_n (pc1 := 6) d_Reader_takeSeed_5 rfl 0 rfl ?_
  refine g_sipush (pc1 := 9) (v := 9999) d_Reader_takeSeed_6 rfl (by decide) ?_
  refine g_callV0 (pc1 := 12) (As := [.int 9999]) (rest := [.ref Ld1]) d_Reader_takeSeed_9 rfl mo_Reader_134 mi_Reader_takeInt mv_Reader_takeInt rfl sh_3 (by decide) (by decide) rfl rfl (Nat.le_of_ble_eq_true rfl) ?_
  obtain ⟨r4, M5, hq3, h⟩ := bnd2 h
  refine f_Reader_takeInt hld  hq3 ?_
  dsimp only [psh]
  refine g_puti (pc1 := 15) d_Reader_takeSeed_12 rfl fo_Reader_180 (po_4_4 _) (shLa_0 hLd1) (ltLa_0 hLd1) ?_
  refine Wp.lM h (fun M6 h => ?_)
  refine g_aload_n (pc1 := 16) d_Reader_takeSeed_15 rfl 0 rfl ?_
  refine g_bipush (pc1 := 18) (v := 59) d_Reader_takeSeed_16 rfl (by decide) ?_
  refine g_callV0 (pc1 := 21) (As := [.int 59]) (rest := []) d_Reader_takeSeed_18 rfl mo_Reader_118 mi_Reader_need mv_Reader_need rfl sh_3 (by decide) (by decide) rfl rfl (Nat.le_of_ble_eq_true rfl) ?_
  obtain ⟨M8, hq7, h⟩ := bnd h
  refine f_Reader_need hld  hq7 ?_
  dsimp only [psh]
  refine g_return rfl d_Reader_takeSeed_21 rfl ?_
  cases h; exact hQ

def B_State_freeOf_6 (X0 : Nat) (Ld1 : Nat) (v2 : Int32) (v3 : Int32) (K6 : Int32 → Int32 → gM → Option (Int32 × gM)) : Int32 → Int32 → gM → Option (Int32 × gM) := fun v4 v5 M =>
  (if 3 ≤ v5 then some (v4, M) else bI2 (F_State_boundOf X0 Ld1 v2 v5 v3 M) (fun r3 M4 => bI (F_Land_freeUnder Ld1 v5 r3 M4) (fun r6 => nmI (v4 ||| r6) (fun x7 => nmI (v5 + 1) (fun x8 => K6 x7 x8 M4)))))
def H_State_freeOf_6 (X0 : Nat) (Ld1 : Nat) (v2 : Int32) (v3 : Int32) : Nat → Int32 → Int32 → gM → Option (Int32 × gM) := lpK (B_State_freeOf_6 X0 Ld1 v2 v3) (fun _ _ _ => none)
set_option maxHeartbeats 4000000 in
set_option maxRecDepth 20000 in
theorem h_State_freeOf_6 {l : Launch} {ld : Nat} {Q : Option Value → gM → gL → gR → Prop} (hld : isLa ld) {X0 : Nat} {Ld1 : Nat} (hX0 : isSt X0) (hLd1 : isLa Ld1) {q : Int32 × gM} {L : gL} (hQ : Q (some (.int q.1)) q.2 L (rf ld))  {v2 : Int32} {v3 : Int32}  : ∀ (f : Nat) (v4 : Int32) (v5 : Int32) (M : gM), H_State_freeOf_6 X0 Ld1 v2 v3 f v4 v5 M = some q → Wp l y_State_freeOf (0, 0, 447) 447 0 0 6 [(0, .ref X0), (1, .ref Ld1), (2, .int v2), (3, .int v3), (4, .int v4), (5, .int v5)] [] M L (rf ld) Q := by
  intro f
  induction f with
  | zero => intro v4 v5 M h; cases h
  | succ f hK6 =>
    intro v4 v5 M h
    replace h : B_State_freeOf_6 X0 Ld1 v2 v3 (H_State_freeOf_6 X0 Ld1 v2 v3 f) v4 v5 M = some q := h
    unfold B_State_freeOf_6 at h
    refine g_iload (pc1 := 8) d_State_freeOf_6 rfl 5 rfl ?_
    refine g_iconst (pc1 := 9) (v := 3) d_State_freeOf_8 rfl (by decide) ?_
    refine g_icmp_ge (pc1 := 12) (tgt := 38) d_State_freeOf_9 (by decide) rfl (fun c1 => ?_) (fun c1 => ?_)
    · replace h := itp h c1
      refine g_iload (pc1 := 40) d_State_freeOf_38 rfl 4 rfl ?_
      refine g_ireturn (Or.inl rfl) d_State_freeOf_40 rfl ?_
      cases h; exact hQ
    · replace h := itn h c1
      refine g_iload (pc1 := 14) d_State_freeOf_12 rfl 4 rfl ?_
      refine g_aload_n (pc1 := 15) d_State_freeOf_14 rfl 1 rfl ?_
      refine g_iload (pc1 := 17) d_State_freeOf_15 rfl 5 rfl ?_
      refine g_aload_n (pc1 := 18) d_State_freeOf_17 rfl 0 rfl ?_
      refine g_aload_n (pc1 := 19) d_State_freeOf_18 rfl 1 rfl ?_
      refine g_iload_n (pc1 := 20) d_State_freeOf_19 rfl 2 rfl ?_
      refine g_iload (pc1 := 22) d_State_freeOf_20 rfl 5 rfl ?_
      refine g_iload_n (pc1 := 23) d_State_freeOf_22 rfl 3 rfl ?_
      refine g_callV0 (pc1 := 26) (As := [.ref Ld1, .int v2, .int v5, .int v3]) (rest := [.int v5, .ref Ld1, .int v4]) d_State_freeOf_23 rfl mo_State_108 mi_State_boundOf mv_State_boundOf rfl (shSt_0 hX0) (ltSt_0 hX0) (by decide) rfl rfl (Nat.le_of_ble_eq_true rfl) ?_
      obtain ⟨r3, M4, hq2, h⟩ := bnd2 h
      refine f_State_boundOf hld hX0 hLd1 hq2 ?_
      dsimp only [psh]
      refine g_callV0 (pc1 := 29) (As := [.int v5, .int r3]) (rest := [.int v4]) d_State_freeOf_26 rfl mo_State_112 mi_Land_freeUnder mv_Land_freeUnder rfl (shLa_0 hLd1) (ltLa_0 hLd1) (by decide) rfl rfl (Nat.le_of_ble_eq_true rfl) ?_
      obtain ⟨r6, hq5, h⟩ := bnd h
      refine f_Land_freeUnder hld hLd1 hq5 ?_
      dsimp only [psh]
      refine g_ior (pc1 := 30) d_State_freeOf_29 rfl ?_
      refine Wp.lI h (fun x7 h => ?_)
      refine g_istore (pc1 := 32) (lv' := [(0, .ref X0), (1, .ref Ld1), (2, .int v2), (3, .int v3), (4, .int x7), (5, .int v5)]) d_State_freeOf_30 rfl (by decide) [1, 2, 3, 4, 0, 5] rfl ?_
      obtain ⟨x8, ex8, h⟩ := ltI h
      refine g_iinc (pc1 := 35) (v := x8) (lv' := [(0, .ref X0), (1, .ref Ld1), (2, .int v2), (3, .int v3), (4, .int x7), (5, .int x8)]) d_State_freeOf_32 rfl 5 rfl (by rw [ex8]; rfl) (by decide) [1, 2, 3, 4, 5, 0] rfl ?_
      refine g_goto (tgt := 6) d_State_freeOf_35 (by decide) ?_
      exact hK6 x7 x8 M4 h
def F_State_freeOf (X0 : Nat) (Ld1 : Nat) (p2 : Int32) (p3 : Int32) (M : gM) : Option (Int32 × gM) :=
  H_State_freeOf_6 X0 Ld1 p2 p3 FU 0 0 M
set_option maxHeartbeats 4000000 in
set_option maxRecDepth 20000 in
theorem f_State_freeOf {l : Launch} {ld : Nat} {M : gM} {L : gL} {Q : Option Value → gM → gL → gR → Prop} (hld : isLa ld) {X0 : Nat} {Ld1 : Nat} {p2 : Int32} {p3 : Int32} (hX0 : isSt X0) (hLd1 : isLa Ld1) {q : Int32 × gM} (h : F_State_freeOf X0 Ld1 p2 p3 M = some q) (hQ : Q (some (.int q.1)) q.2 L (rf ld)) : Tm l y_State_freeOf (0, 0, 447) 447 [.ref X0, .ref Ld1, .int p2, .int p3] M L (rf ld) Q := by
  refine Tm.of (by decide) (Nat.le_of_ble_eq_true rfl) ?_
  show Wp l y_State_freeOf (0, 0, 447) 447 0 0 0 [(0, .ref X0), (1, .ref Ld1), (2, .int p2), (3, .int p3)] [] M L (rf ld) Q
  unfold F_State_freeOf at h
  refine g_iconst (pc1 := 1) (v := 0) d_State_freeOf_0 rfl (by decide) ?_
  refine g_istore (pc1 := 3) (lv' := [(0, .ref X0), (1, .ref Ld1), (2, .int p2), (3, .int p3), (4, .int 0)]) d_State_freeOf_1 rfl (by decide) [1, 2, 3, 4, 0] rfl ?_
  refine g_iconst (pc1 := 4) (v := 0) d_State_freeOf_3 rfl (by decide) ?_
  refine g_istore (pc1 := 6) (lv' := [(0, .ref X0), (1, .ref Ld1), (2, .int p2), (3, .int p3), (4, .int 0), (5, .int 0)]) d_State_freeOf_4 rfl (by decide) [1, 2, 3, 4, 5, 0] rfl ?_
  exact h_State_freeOf_6 hld hX0 hLd1 hQ  _ 0 0 M h

def F_State_slipInto (X0 : Nat) (Ld1 : Nat) (p2 : Int32) (p3 : Int32) (M : gM) : Option (Int32 × gM) :=
  nmI (8 * (M X0 2)) (fun x1 => bI (F_Land_lot 100 p3 x1) (fun r3 => bI2 (F_Land_slipsOf Ld1 p2 (M X0 0) M) (fun r5 M6 => (if r3 < r5 then bI (F_Land_lot (M6 Ld1 0) p3 (x1 + 1)) (fun r9 => bI (F_Main_at (X0 + 2) 6 r9 M6) (fun r11 => bI (F_Land_inDish Ld1 p2 r9 M6) (fun r13 => (if r11 ≤ r13 then some ((-2), M6) else some (r9, M6))))) else some ((-2), M6)))))
set_option maxHeartbeats 4000000 in
set_option maxRecDepth 20000 in
theorem f_State_slipInto {l : Launch} {ld : Nat} {M : gM} {L : gL} {Q : Option Value → gM → gL → gR → Prop} (hld : isLa ld) {X0 : Nat} {Ld1 : Nat} {p2 : Int32} {p3 : Int32} (hX0 : isSt X0) (hLd1 : isLa Ld1) {q : Int32 × gM} (h : F_State_slipInto X0 Ld1 p2 p3 M = some q) (hQ : Q (some (.int q.1)) q.2 L (rf ld)) : Tm l y_State_slipInto (0, 0, 447) 447 [.ref X0, .ref Ld1, .int p2, .int p3] M L (rf ld) Q := by
  refine Tm.of (by decide) (Nat.le_of_ble_eq_true rfl) ?_
  show Wp l y_State_slipInto (0, 0, 447) 447 0 0 0 [(0, .ref X0), (1, .ref Ld1), (2, .int p2), (3, .int p3)] [] M L (rf ld) Q
  unfold F_State_slipInto at h
  refine g_bipush (pc1 := 2) (v := 8) d_State_slipInto_0 rfl (by decide) ?_
  refine g_aload_n (pc1 := 3) d_State_slipInto_2 rfl 0 rfl ?_
  refine g_geti (pc1 := 6) d_State_slipInto_3 rfl ⟨_, fo_State_40⟩ (shSt_0 hX0) (ltSt_0 hX0) ?_
  refine g_imul (pc1 := 7) d_State_slipInto_6 rfl ?_
  refine Wp.lI h (fun x1 h => ?_)
  refine g_istore (pc1 := 9) (lv' := [(0, .ref X0), (1, .ref Ld1), (2, .int p2), (3, .int p3), (4, .int x1)]) d_State_slipInto_7 rfl (by decide) [1, 2, 3, 4, 0] rfl ?_
  refine g_bipush (pc1 := 11) (v := 100) d_State_slipInto_9 rfl (by decide) ?_
  refine g_iload_n (pc1 := 12) d_State_slipInto_11 rfl 3 rfl ?_
  refine g_iload (pc1 := 14) d_State_slipInto_12 rfl 4 rfl ?_
  refine g_callS0 (pc1 := 17) (As := [.int 100, .int p3, .int x1]) (rest := []) d_State_slipInto_14 rfl mo_State_69 ms_Land_lot (by decide) rfl rfl (Nat.le_of_ble_eq_true rfl) ?_
  obtain ⟨r3, hq2, h⟩ := bnd h
  refine f_Land_lot hld  hq2 ?_
  dsimp only [psh]
  refine g_aload_n (pc1 := 18) d_State_slipInto_17 rfl 1 rfl ?_
  refine g_iload_n (pc1 := 19) d_State_slipInto_18 rfl 2 rfl ?_
  refine g_aload_n (pc1 := 20) d_State_slipInto_19 rfl 0 rfl ?_
  refine g_geti (pc1 := 23) d_State_slipInto_20 rfl ⟨_, fo_State_34⟩ (shSt_0 hX0) (ltSt_0 hX0) ?_
  refine g_callV0 (pc1 := 26) (As := [.int p2, .int (M X0 0)]) (rest := [.int r3]) d_State_slipInto_23 rfl mo_State_73 mi_Land_slipsOf mv_Land_slipsOf rfl (shLa_0 hLd1) (ltLa_0 hLd1) (by decide) rfl rfl (Nat.le_of_ble_eq_true rfl) ?_
  obtain ⟨r5, M6, hq4, h⟩ := bnd2 h
  refine f_Land_slipsOf hld hLd1 hq4 ?_
  dsimp only [psh]
  refine g_icmp_lt (pc1 := 29) (tgt := 32) d_State_slipInto_26 (by decide) rfl (fun c7 => ?_) (fun c7 => ?_)
  · replace h := itp h c7
    refine g_aload_n (pc1 := 33) d_State_slipInto_32 rfl 1 rfl ?_
    refine g_geti (pc1 := 36) d_State_slipInto_33 rfl ⟨_, fo_State_47⟩ (shLa_0 hLd1) (ltLa_0 hLd1) ?_
    refine g_iload_n (pc1 := 37) d_State_slipInto_36 rfl 3 rfl ?_
    refine g_iload (pc1 := 39) d_State_slipInto_37 rfl 4 rfl ?_
    refine g_iconst (pc1 := 40) (v := 1) d_State_slipInto_39 rfl (by decide) ?_
    refine g_iadd (pc1 := 41) d_State_slipInto_40 rfl ?_
    refine g_callS0 (pc1 := 44) (As := [.int (M6 Ld1 0), .int p3, .int (x1 + 1)]) (rest := []) d_State_slipInto_41 rfl mo_State_69 ms_Land_lot (by decide) rfl rfl (Nat.le_of_ble_eq_true rfl) ?_
    obtain ⟨r9, hq8, h⟩ := bnd h
    refine f_Land_lot hld  hq8 ?_
    dsimp only [psh]
    refine g_istore (pc1 := 46) (lv' := [(0, .ref X0), (1, .ref Ld1), (2, .int p2), (3, .int p3), (4, .int x1), (5, .int r9)]) d_State_slipInto_44 rfl (by decide) [1, 2, 3, 4, 5, 0] rfl ?_
    refine g_aload_n (pc1 := 47) d_State_slipInto_46 rfl 0 rfl ?_
    refine g_getr (pc1 := 50) d_State_slipInto_47 rfl ⟨_, fo_State_19⟩ (shSt_0 hX0) (ltSt_0 hX0) (rfSt_5 ld hX0) ?_
    refine g_iload (pc1 := 52) d_State_slipInto_50 rfl 5 rfl ?_
    refine g_callS0 (pc1 := 55) (As := [.ref (X0 + 2), .int r9]) (rest := []) d_State_slipInto_52 rfl mo_State_53 ms_Main_at (by decide) rfl rfl (Nat.le_of_ble_eq_true rfl) ?_
    obtain ⟨r11, hq10, h⟩ := bnd h
    refine f_Main_at hld (shSt_2 hX0) (ltSt_2 hX0) (by decide) hq10 ?_
    dsimp only [psh]
    refine g_aload_n (pc1 := 56) d_State_slipInto_55 rfl 1 rfl ?_
    refine g_iload_n (pc1 := 57) d_State_slipInto_56 rfl 2 rfl ?_
    refine g_iload (pc1 := 59) d_State_slipInto_57 rfl 5 rfl ?_
    refine g_callV0 (pc1 := 62) (As := [.int p2, .int r9]) (rest := [.int r11]) d_State_slipInto_59 rfl mo_State_65 mi_Land_inDish mv_Land_inDish rfl (shLa_0 hLd1) (ltLa_0 hLd1) (by decide) rfl rfl (Nat.le_of_ble_eq_true rfl) ?_
    obtain ⟨r13, hq12, h⟩ := bnd h
    refine f_Land_inDish hld hLd1 hq12 ?_
    dsimp only [psh]
    refine g_icmp_le (pc1 := 65) (tgt := 70) d_State_slipInto_62 (by decide) rfl (fun c14 => ?_) (fun c14 => ?_)
    · replace h := itp h c14
      refine g_bipush (pc1 := 72) (v := (-2)) d_State_slipInto_70 rfl (by decide) ?_
      refine g_ireturn (Or.inl rfl) d_State_slipInto_72 rfl ?_
      cases h; exact hQ
    · replace h := itn h c14
      refine g_iload (pc1 := 67) d_State_slipInto_65 rfl 5 rfl ?_
      refine g_goto (tgt := 72) d_State_slipInto_67 (by decide) ?_
      refine g_ireturn (Or.inl rfl) d_State_slipInto_72 rfl ?_
      cases h; exact hQ
  · replace h := itn h c7
    refine g_bipush (pc1 := 31) (v := (-2)) d_State_slipInto_29 rfl (by decide) ?_
    refine g_ireturn (Or.inl rfl) d_State_slipInto_31 rfl ?_
    cases h; exact hQ

def B_Told_isAsKnown_3 (Ld1 : Nat) (v2 : Int32) (v3 : Int32) (K3 : Int32 → gM → Option (Int32 × gM)) : Int32 → gM → Option (Int32 × gM) := fun v4 M =>
  (if v3 ≤ v4 then some (1, M) else bI (F_Main_at 384 20 v4 M) (fun r3 => bI (F_Main_at 385 20 v4 M) (fun r5 => bI2 (F_Told_forceOf Ld1 v2 (M 383 7) r3 r5 M) (fun r7 M8 => bI (F_Main_at 386 20 v4 M8) (fun r10 => (if r7 = r10 then nmI (v4 + 1) (fun x12 => K3 x12 M8) else some (0, M8)))))))
def H_Told_isAsKnown_3 (Ld1 : Nat) (v2 : Int32) (v3 : Int32) : Nat → Int32 → gM → Option (Int32 × gM) := lpK (B_Told_isAsKnown_3 Ld1 v2 v3) (fun _ _ => none)
set_option maxHeartbeats 4000000 in
set_option maxRecDepth 20000 in
theorem h_Told_isAsKnown_3 {l : Launch} {ld : Nat} {Q : Option Value → gM → gL → gR → Prop} (hld : isLa ld) {Ld1 : Nat} (hLd1 : isLa Ld1) {q : Int32 × gM} {L : gL} (hQ : Q (some (.int q.1)) q.2 L (rf ld))  {v2 : Int32} {v3 : Int32}  : ∀ (f : Nat) (v4 : Int32) (M : gM), H_Told_isAsKnown_3 Ld1 v2 v3 f v4 M = some q → Wp l y_Told_isAsKnown (0, 0, 447) 447 0 0 3 [(0, .ref 383), (1, .ref Ld1), (2, .int v2), (3, .int v3), (4, .int v4)] [] M L (rf ld) Q := by
  intro f
  induction f with
  | zero => intro v4 M h; cases h
  | succ f hK3 =>
    intro v4 M h
    replace h : B_Told_isAsKnown_3 Ld1 v2 v3 (H_Told_isAsKnown_3 Ld1 v2 v3 f) v4 M = some q := h
    unfold B_Told_isAsKnown_3 at h
    refine g_iload (pc1 := 5) d_Told_isAsKnown_3 rfl 4 rfl ?_
    refine g_iload_n (pc1 := 6) d_Told_isAsKnown_5 rfl 3 rfl ?_
    refine g_icmp_ge (pc1 := 9) (tgt := 57) d_Told_isAsKnown_6 (by decide) rfl (fun c1 => ?_) (fun c1 => ?_)
    · replace h := itp h c1
      refine g_iconst (pc1 := 58) (v := 1) d_Told_isAsKnown_57 rfl (by decide) ?_
      refine g_ireturn (Or.inr ⟨rfl, rfl⟩) d_Told_isAsKnown_58 rfl ?_
      cases h; exact hQ
    · replace h := itn h c1
      refine g_aload_n (pc1 := 10) d_Told_isAsKnown_9 rfl 0 rfl ?_
      refine g_aload_n (pc1 := 11) d_Told_isAsKnown_10 rfl 1 rfl ?_
      refine g_iload_n (pc1 := 12) d_Told_isAsKnown_11 rfl 2 rfl ?_
      refine g_aload_n (pc1 := 13) d_Told_isAsKnown_12 rfl 0 rfl ?_
      refine g_geti (pc1 := 16) d_Told_isAsKnown_13 rfl ⟨_, fo_Told_41⟩ sh_383 (by decide) ?_
      refine g_aload_n (pc1 := 17) d_Told_isAsKnown_16 rfl 0 rfl ?_
      refine g_getr (pc1 := 20) d_Told_isAsKnown_17 rfl ⟨_, fo_Told_11⟩ sh_383 (by decide) (rf_383_0 ld) ?_
      refine g_iload (pc1 := 22) d_Told_isAsKnown_20 rfl 4 rfl ?_
      refine g_callS0 (pc1 := 25) (As := [.ref 384, .int v4]) (rest := [.int (M 383 7), .int v2, .ref Ld1, .ref 383]) d_Told_isAsKnown_22 rfl mo_Told_73 ms_Main_at (by decide) rfl rfl (Nat.le_of_ble_eq_true rfl) ?_
      obtain ⟨r3, hq2, h⟩ := bnd h
      refine f_Main_at hld sh_384 (by decide) (by decide) hq2 ?_
      dsimp only [psh]
      refine g_aload_n (pc1 := 26) d_Told_isAsKnown_25 rfl 0 rfl ?_
      refine g_getr (pc1 := 29) d_Told_isAsKnown_26 rfl ⟨_, fo_Told_15⟩ sh_383 (by decide) (rf_383_1 ld) ?_
      refine g_iload (pc1 := 31) d_Told_isAsKnown_29 rfl 4 rfl ?_
      refine g_callS0 (pc1 := 34) (As := [.ref 385, .int v4]) (rest := [.int r3, .int (M 383 7), .int v2, .ref Ld1, .ref 383]) d_Told_isAsKnown_31 rfl mo_Told_73 ms_Main_at (by decide) rfl rfl (Nat.le_of_ble_eq_true rfl) ?_
      obtain ⟨r5, hq4, h⟩ := bnd h
      refine f_Main_at hld sh_385 (by decide) (by decide) hq4 ?_
      dsimp only [psh]
      refine g_callV0 (pc1 := 37) (As := [.ref Ld1, .int v2, .int (M 383 7), .int r3, .int r5]) (rest := []) d_Told_isAsKnown_34 rfl mo_Told_77 mi_Told_forceOf mv_Told_forceOf rfl sh_383 (by decide) (by decide) rfl rfl (Nat.le_of_ble_eq_true rfl) ?_
      obtain ⟨r7, M8, hq6, h⟩ := bnd2 h
      refine f_Told_forceOf hld hLd1 hq6 ?_
      dsimp only [psh]
      refine g_aload_n (pc1 := 38) d_Told_isAsKnown_37 rfl 0 rfl ?_
      refine g_getr (pc1 := 41) d_Told_isAsKnown_38 rfl ⟨_, fo_Told_18⟩ sh_383 (by decide) (rf_383_2 ld) ?_
      refine g_iload (pc1 := 43) d_Told_isAsKnown_41 rfl 4 rfl ?_
      refine g_callS0 (pc1 := 46) (As := [.ref 386, .int v4]) (rest := [.int r7]) d_Told_isAsKnown_43 rfl mo_Told_73 ms_Main_at (by decide) rfl rfl (Nat.le_of_ble_eq_true rfl) ?_
      obtain ⟨r10, hq9, h⟩ := bnd h
      refine f_Main_at hld sh_386 (by decide) (by decide) hq9 ?_
      dsimp only [psh]
      refine g_icmp_eq (pc1 := 49) (tgt := 51) d_Told_isAsKnown_46 (by decide) rfl (fun c11 => ?_) (fun c11 => ?_)
      · replace h := itp h c11
        obtain ⟨x12, ex12, h⟩ := ltI h
        refine g_iinc (pc1 := 54) (v := x12) (lv' := [(0, .ref 383), (1, .ref Ld1), (2, .int v2), (3, .int v3), (4, .int x12)]) d_Told_isAsKnown_51 rfl 4 rfl (by rw [ex12]; rfl) (by decide) [1, 2, 3, 4, 0] rfl ?_
        refine g_goto (tgt := 3) d_Told_isAsKnown_54 (by decide) ?_
        exact hK3 x12 M8 h
      · replace h := itn h c11
        refine g_iconst (pc1 := 50) (v := 0) d_Told_isAsKnown_49 rfl (by decide) ?_
        refine g_ireturn (Or.inr ⟨rfl, rfl⟩) d_Told_isAsKnown_50 rfl ?_
        cases h; exact hQ
def F_Told_isAsKnown (Ld1 : Nat) (p2 : Int32) (p3 : Int32) (M : gM) : Option (Int32 × gM) :=
  H_Told_isAsKnown_3 Ld1 p2 p3 FU 0 M
set_option maxHeartbeats 4000000 in
set_option maxRecDepth 20000 in
theorem f_Told_isAsKnown {l : Launch} {ld : Nat} {M : gM} {L : gL} {Q : Option Value → gM → gL → gR → Prop} (hld : isLa ld) {Ld1 : Nat} {p2 : Int32} {p3 : Int32} (hLd1 : isLa Ld1) {q : Int32 × gM} (h : F_Told_isAsKnown Ld1 p2 p3 M = some q) (hQ : Q (some (.int q.1)) q.2 L (rf ld)) : Tm l y_Told_isAsKnown (0, 0, 447) 447 [.ref 383, .ref Ld1, .int p2, .int p3] M L (rf ld) Q := by
  refine Tm.of (by decide) (Nat.le_of_ble_eq_true rfl) ?_
  show Wp l y_Told_isAsKnown (0, 0, 447) 447 0 0 0 [(0, .ref 383), (1, .ref Ld1), (2, .int p2), (3, .int p3)] [] M L (rf ld) Q
  unfold F_Told_isAsKnown at h
  refine g_iconst (pc1 := 1) (v := 0) d_Told_isAsKnown_0 rfl (by decide) ?_
  refine g_istore (pc1 := 3) (lv' := [(0, .ref 383), (1, .ref Ld1), (2, .int p2), (3, .int p3), (4, .int 0)]) d_Told_isAsKnown_1 rfl (by decide) [1, 2, 3, 4, 0] rfl ?_
  exact h_Told_isAsKnown_3 hld hLd1 hQ  _ 0 M h

def B_Told_mostAlike_13 (Ld1 : Nat) (v2 : Int32) (v3 : Int32) (v4 : Int32) (K13 : Int32 → Int32 → gM → Option (Int32 × gM)) : Int32 → Int32 → gM → Option (Int32 × gM) := fun v5 v6 M =>
  (if (M 383 7) ≤ v6 then some (v5, M) else bI2 (F_Told_forceOf Ld1 v2 v6 v3 v4 M) (fun r5 M6 => bI (F_Main_at 390 100 r5 M6) (fun r8 => nmI (r8 + 1) (fun x9 => bI (F_Main_put 390 100 r5 x9 M6) (fun M11 => nmI (if v5 < x9 then x9 else v5) (fun x12 => nmI (v6 + 1) (fun x13 => K13 x12 x13 M11)))))))
def H_Told_mostAlike_13 (Ld1 : Nat) (v2 : Int32) (v3 : Int32) (v4 : Int32) : Nat → Int32 → Int32 → gM → Option (Int32 × gM) := lpK (B_Told_mostAlike_13 Ld1 v2 v3 v4) (fun _ _ _ => none)
set_option maxHeartbeats 4000000 in
set_option maxRecDepth 20000 in
theorem h_Told_mostAlike_13 {l : Launch} {ld : Nat} {Q : Option Value → gM → gL → gR → Prop} (hld : isLa ld) {Ld1 : Nat} (hLd1 : isLa Ld1) {q : Int32 × gM} {L : gL} (hQ : Q (some (.int q.1)) q.2 L (rf ld))  {v2 : Int32} {v3 : Int32} {v4 : Int32}  : ∀ (f : Nat) (v5 : Int32) (v6 : Int32) (M : gM), H_Told_mostAlike_13 Ld1 v2 v3 v4 f v5 v6 M = some q → Wp l y_Told_mostAlike (0, 0, 447) 447 0 0 13 [(0, .ref 383), (1, .ref Ld1), (2, .int v2), (3, .int v3), (4, .int v4), (5, .int v5), (6, .int v6)] [] M L (rf ld) Q := by
  intro f
  induction f with
  | zero => intro v5 v6 M h; cases h
  | succ f hK13 =>
    intro v5 v6 M h
    replace h : B_Told_mostAlike_13 Ld1 v2 v3 v4 (H_Told_mostAlike_13 Ld1 v2 v3 v4 f) v5 v6 M = some q := h
    unfold B_Told_mostAlike_13 at h
    refine g_iload (pc1 := 15) d_Told_mostAlike_13 rfl 6 rfl ?_
    refine g_aload_n (pc1 := 16) d_Told_mostAlike_15 rfl 0 rfl ?_
    refine g_geti (pc1 := 19) d_Told_mostAlike_16 rfl ⟨_, fo_Told_41⟩ sh_383 (by decide) ?_
    refine g_icmp_ge (pc1 := 22) (tgt := 74) d_Told_mostAlike_19 (by decide) rfl (fun c3 => ?_) (fun c3 => ?_)
    · replace h := itp h c3
      refine g_iload (pc1 := 76) d_Told_mostAlike_74 rfl 5 rfl ?_
      refine g_ireturn (Or.inl rfl) d_Told_mostAlike_76 rfl ?_
      cases h; exact hQ
    · replace h := itn h c3
      refine g_aload_n (pc1 := 23) d_Told_mostAlike_22 rfl 0 rfl ?_
      refine g_aload_n (pc1 := 24) d_Told_mostAlike_23 rfl 1 rfl ?_
      refine g_iload_n (pc1 := 25) d_Told_mostAlike_24 rfl 2 rfl ?_
      refine g_iload (pc1 := 27) d_Told_mostAlike_25 rfl 6 rfl ?_
      refine g_iload_n (pc1 := 28) d_Told_mostAlike_27 rfl 3 rfl ?_
      refine g_iload (pc1 := 30) d_Told_mostAlike_28 rfl 4 rfl ?_
      refine g_callV0 (pc1 := 33) (As := [.ref Ld1, .int v2, .int v6, .int v3, .int v4]) (rest := []) d_Told_mostAlike_30 rfl mo_Told_77 mi_Told_forceOf mv_Told_forceOf rfl sh_383 (by decide) (by decide) rfl rfl (Nat.le_of_ble_eq_true rfl) ?_
      obtain ⟨r5, M6, hq4, h⟩ := bnd2 h
      refine f_Told_forceOf hld hLd1 hq4 ?_
      dsimp only [psh]
      refine g_istore (pc1 := 35) (lv' := [(0, .ref 383), (1, .ref Ld1), (2, .int v2), (3, .int v3), (4, .int v4), (5, .int v5), (6, .int v6), (7, .int r5)]) d_Told_mostAlike_33 rfl (by decide) [1, 2, 3, 4, 5, 6, 7, 0] rfl ?_
      refine g_aload_n (pc1 := 36) d_Told_mostAlike_35 rfl 0 rfl ?_
      refine g_getr (pc1 := 39) d_Told_mostAlike_36 rfl ⟨_, fo_Told_30⟩ sh_383 (by decide) (rf_383_8 ld) ?_
      refine g_iload (pc1 := 41) d_Told_mostAlike_39 rfl 7 rfl ?_
      refine g_callS0 (pc1 := 44) (As := [.ref 390, .int r5]) (rest := []) d_Told_mostAlike_41 rfl mo_Told_73 ms_Main_at (by decide) rfl rfl (Nat.le_of_ble_eq_true rfl) ?_
      obtain ⟨r8, hq7, h⟩ := bnd h
      refine f_Main_at hld sh_390 (by decide) (by decide) hq7 ?_
      dsimp only [psh]
      refine g_iconst (pc1 := 45) (v := 1) d_Told_mostAlike_44 rfl (by decide) ?_
      refine g_iadd (pc1 := 46) d_Told_mostAlike_45 rfl ?_
      refine Wp.lI h (fun x9 h => ?_)
      refine g_istore (pc1 := 48) (lv' := [(0, .ref 383), (1, .ref Ld1), (2, .int v2), (3, .int v3), (4, .int v4), (5, .int v5), (6, .int v6), (7, .int r5), (8, .int x9)]) d_Told_mostAlike_46 rfl (by decide) [1, 2, 3, 4, 5, 6, 7, 8, 0] rfl ?_
      refine g_aload_n (pc1 := 49) d_Told_mostAlike_48 rfl 0 rfl ?_
      refine g_getr (pc1 := 52) d_Told_mostAlike_49 rfl ⟨_, fo_Told_30⟩ sh_383 (by decide) (rf_383_8 ld) ?_
      refine g_iload (pc1 := 54) d_Told_mostAlike_52 rfl 7 rfl ?_
      refine g_iload (pc1 := 56) d_Told_mostAlike_54 rfl 8 rfl ?_
      refine g_callS0 (pc1 := 59) (As := [.ref 390, .int r5, .int x9]) (rest := []) d_Told_mostAlike_56 rfl mo_Told_37 ms_Main_put (by decide) rfl rfl (Nat.le_of_ble_eq_true rfl) ?_
      obtain ⟨M11, hq10, h⟩ := bnd h
      refine f_Main_put hld sh_390 (by decide) (by decide) hq10 ?_
      dsimp only [psh]
      refine g_iload (pc1 := 61) d_Told_mostAlike_59 rfl 5 rfl ?_
      refine g_iload (pc1 := 63) d_Told_mostAlike_61 rfl 8 rfl ?_
      refine g_mmax (pc1 := 66) d_Told_mostAlike_63 rfl mm_Told_93 (by decide) ⟨Nat.le_refl 0, Nat.le_refl 0⟩ (Nat.le_of_ble_eq_true rfl) ?_
      refine Wp.lI h (fun x12 h => ?_)
      refine g_istore (pc1 := 68) (lv' := [(0, .ref 383), (1, .ref Ld1), (2, .int v2), (3, .int v3), (4, .int v4), (5, .int x12), (6, .int v6), (7, .int r5), (8, .int x9)]) d_Told_mostAlike_66 rfl (by decide) [1, 2, 3, 4, 5, 0, 6, 7, 8] rfl ?_
      obtain ⟨x13, ex13, h⟩ := ltI h
      refine g_iinc (pc1 := 71) (v := x13) (lv' := [(0, .ref 383), (1, .ref Ld1), (2, .int v2), (3, .int v3), (4, .int v4), (5, .int x12), (6, .int x13), (7, .int r5), (8, .int x9)]) d_Told_mostAlike_68 rfl 6 rfl (by rw [ex13]; rfl) (by decide) [1, 2, 3, 4, 5, 6, 0, 7, 8] rfl ?_
      refine g_goto (tgt := 13) d_Told_mostAlike_71 (by decide) ?_
      refine Wp.loc (lv' := [(0, .ref 383), (1, .ref Ld1), (2, .int v2), (3, .int v3), (4, .int v4), (5, .int x12), (6, .int x13)]) [0, 1, 2, 3, 4, 5, 6] rfl ?_
      exact hK13 x12 x13 M11 h
def F_Told_mostAlike (Ld1 : Nat) (p2 : Int32) (p3 : Int32) (p4 : Int32) (M : gM) : Option (Int32 × gM) :=
  bI (F_Main_wipe 390 100 M) (fun M2 => H_Told_mostAlike_13 Ld1 p2 p3 p4 FU 0 0 M2)
set_option maxHeartbeats 4000000 in
set_option maxRecDepth 20000 in
theorem f_Told_mostAlike {l : Launch} {ld : Nat} {M : gM} {L : gL} {Q : Option Value → gM → gL → gR → Prop} (hld : isLa ld) {Ld1 : Nat} {p2 : Int32} {p3 : Int32} {p4 : Int32} (hLd1 : isLa Ld1) {q : Int32 × gM} (h : F_Told_mostAlike Ld1 p2 p3 p4 M = some q) (hQ : Q (some (.int q.1)) q.2 L (rf ld)) : Tm l y_Told_mostAlike (0, 0, 447) 447 [.ref 383, .ref Ld1, .int p2, .int p3, .int p4] M L (rf ld) Q := by
  refine Tm.of (by decide) (Nat.le_of_ble_eq_true rfl) ?_
  show Wp l y_Told_mostAlike (0, 0, 447) 447 0 0 0 [(0, .ref 383), (1, .ref Ld1), (2, .int p2), (3, .int p3), (4, .int p4)] [] M L (rf ld) Q
  unfold F_Told_mostAlike at h
  refine g_aload_n (pc1 := 1) d_Told_mostAlike_0 rfl 0 rfl ?_
  refine g_getr (pc1 := 4) d_Told_mostAlike_1 rfl ⟨_, fo_Told_30⟩ sh_383 (by decide) (rf_383_8 ld) ?_
  refine g_callS0 (pc1 := 7) (As := [.ref 390]) (rest := []) d_Told_mostAlike_4 rfl mo_Told_89 ms_Main_wipe (by decide) rfl rfl (Nat.le_of_ble_eq_true rfl) ?_
  obtain ⟨M2, hq1, h⟩ := bnd h
  refine f_Main_wipe hld sh_390 (by decide) (by decide) hq1 ?_
  dsimp only [psh]
  refine g_iconst (pc1 := 8) (v := 0) d_Told_mostAlike_7 rfl (by decide) ?_
  refine g_istore (pc1 := 10) (lv' := [(0, .ref 383), (1, .ref Ld1), (2, .int p2), (3, .int p3), (4, .int p4), (5, .int 0)]) d_Told_mostAlike_8 rfl (by decide) [1, 2, 3, 4, 5, 0] rfl ?_
  refine g_iconst (pc1 := 11) (v := 0) d_Told_mostAlike_10 rfl (by decide) ?_
  refine g_istore (pc1 := 13) (lv' := [(0, .ref 383), (1, .ref Ld1), (2, .int p2), (3, .int p3), (4, .int p4), (5, .int 0), (6, .int 0)]) d_Told_mostAlike_11 rfl (by decide) [1, 2, 3, 4, 5, 6, 0] rfl ?_
  exact h_Told_mostAlike_13 hld hLd1 hQ  _ 0 0 M2 h

def F_Main_eat (ld : Nat) (p1 : Int32) (M : gM) : Option (Int32 × gM) :=
  bI (F_Main_isOne p1 (M ld 2)) (fun r2 => (if r2 = 0 then some ((-1), M) else (if 0 ≤ (M 64 3) then bI (F_Past_keep 64 M) (fun M6 => bI (F_State_eatServed 64 p1 M6) (fun M8 => bI2 (F_State_freeOf 64 ld p1 0 M8) (fun r10 M11 => some (r10, M11)))) else some ((-2), M))))
set_option maxHeartbeats 4000000 in
set_option maxRecDepth 20000 in
theorem f_Main_eat {l : Launch} {ld : Nat} {M : gM} {L : gL} {Q : Option Value → gM → gL → gR → Prop} (hld : isLa ld) {p1 : Int32}  {q : Int32 × gM} (h : F_Main_eat ld p1 M = some q) (hQ : Q (some (.int q.1)) q.2 L (rf ld)) : Tm l y_Main_eat (0, 0, 447) 447 [.ref 0, .int p1] M L (rf ld) Q := by
  refine Tm.of (by decide) (Nat.le_of_ble_eq_true rfl) ?_
  show Wp l y_Main_eat (0, 0, 447) 447 0 0 0 [(0, .ref 0), (1, .int p1)] [] M L (rf ld) Q
  unfold F_Main_eat at h
  refine g_iload_n (pc1 := 1) d_Main_eat_0 rfl 1 rfl ?_
  refine g_aload_n (pc1 := 2) d_Main_eat_1 rfl 0 rfl ?_
  refine g_getr (pc1 := 5) d_Main_eat_2 rfl ⟨_, fo_Main_26⟩ sh_0 (by decide) (rf_0_2 ld) ?_
  refine g_geti (pc1 := 8) d_Main_eat_5 rfl ⟨_, fo_Main_157⟩ (shLa_0 hld) (ltLa_0 hld) ?_
  refine g_callS0 (pc1 := 11) (As := [.int p1, .int (M ld 2)]) (rest := []) d_Main_eat_8 rfl mo_Main_112 ms_Main_isOne (by decide) rfl rfl (Nat.le_of_ble_eq_true rfl) ?_
  obtain ⟨r2, hq1, h⟩ := bnd h
  refine f_Main_isOne hld  hq1 ?_
  dsimp only [psh]
  refine g_if_ne (pc1 := 14) (tgt := 16) d_Main_eat_11 (by decide) rfl (fun c3 => ?_) (fun c3 => ?_)
  · replace h := itn h c3
    refine g_aload_n (pc1 := 17) d_Main_eat_16 rfl 0 rfl ?_
    refine g_getr (pc1 := 20) d_Main_eat_17 rfl ⟨_, fo_Main_36⟩ sh_0 (by decide) (rf_0_4 ld) ?_
    refine g_geti (pc1 := 23) d_Main_eat_20 rfl ⟨_, fo_Main_208⟩ (shSt_0 isSt_64) (ltSt_0 isSt_64) ?_
    refine g_if_ge (pc1 := 26) (tgt := 29) d_Main_eat_23 (by decide) rfl (fun c4 => ?_) (fun c4 => ?_)
    · replace h := itp h c4
      refine g_aload_n (pc1 := 30) d_Main_eat_29 rfl 0 rfl ?_
      refine g_getr (pc1 := 33) d_Main_eat_30 rfl ⟨_, fo_Main_46⟩ sh_0 (by decide) (rf_0_6 ld) ?_
      refine g_aload_n (pc1 := 34) d_Main_eat_33 rfl 0 rfl ?_
      refine g_getr (pc1 := 37) d_Main_eat_34 rfl ⟨_, fo_Main_36⟩ sh_0 (by decide) (rf_0_4 ld) ?_
      refine g_callV0 (pc1 := 40) (As := [.ref 64]) (rest := []) d_Main_eat_37 rfl mo_Main_200 mi_Past_keep mv_Past_keep rfl sh_78 (by decide) (by decide) rfl rfl (Nat.le_of_ble_eq_true rfl) ?_
      obtain ⟨M6, hq5, h⟩ := bnd h
      refine f_Past_keep hld isSt_64 hq5 ?_
      dsimp only [psh]
      refine g_aload_n (pc1 := 41) d_Main_eat_40 rfl 0 rfl ?_
      refine g_getr (pc1 := 44) d_Main_eat_41 rfl ⟨_, fo_Main_36⟩ sh_0 (by decide) (rf_0_4 ld) ?_
      refine g_iload_n (pc1 := 45) d_Main_eat_44 rfl 1 rfl ?_
      refine g_callV0 (pc1 := 48) (As := [.int p1]) (rest := []) d_Main_eat_45 rfl mo_Main_211 mi_State_eatServed mv_State_eatServed rfl (shSt_0 isSt_64) (ltSt_0 isSt_64) (by decide) rfl rfl (Nat.le_of_ble_eq_true rfl) ?_
      obtain ⟨M8, hq7, h⟩ := bnd h
      refine f_State_eatServed hld isSt_64 hq7 ?_
      dsimp only [psh]
      refine g_aload_n (pc1 := 49) d_Main_eat_48 rfl 0 rfl ?_
      refine g_getr (pc1 := 52) d_Main_eat_49 rfl ⟨_, fo_Main_36⟩ sh_0 (by decide) (rf_0_4 ld) ?_
      refine g_aload_n (pc1 := 53) d_Main_eat_52 rfl 0 rfl ?_
      refine g_getr (pc1 := 56) d_Main_eat_53 rfl ⟨_, fo_Main_26⟩ sh_0 (by decide) (rf_0_2 ld) ?_
      refine g_iload_n (pc1 := 57) d_Main_eat_56 rfl 1 rfl ?_
      refine g_iconst (pc1 := 58) (v := 0) d_Main_eat_57 rfl (by decide) ?_
      refine g_callV0 (pc1 := 61) (As := [.ref ld, .int p1, .int 0]) (rest := []) d_Main_eat_58 rfl mo_Main_189 mi_State_freeOf mv_State_freeOf rfl (shSt_0 isSt_64) (ltSt_0 isSt_64) (by decide) rfl rfl (Nat.le_of_ble_eq_true rfl) ?_
      obtain ⟨r10, M11, hq9, h⟩ := bnd2 h
      refine f_State_freeOf hld isSt_64 hld hq9 ?_
      dsimp only [psh]
      refine g_ireturn (Or.inl rfl) d_Main_eat_61 rfl ?_
      cases h; exact hQ
    · replace h := itn h c4
      refine g_bipush (pc1 := 28) (v := (-2)) d_Main_eat_26 rfl (by decide) ?_
      refine g_ireturn (Or.inl rfl) d_Main_eat_28 rfl ?_
      cases h; exact hQ
  · replace h := itp h c3
    refine g_iconst (pc1 := 15) (v := (-1)) d_Main_eat_14 rfl (by decide) ?_
    refine g_ireturn (Or.inl rfl) d_Main_eat_15 rfl ?_
    cases h; exact hQ

def F_Main_freeBehind (ld : Nat) (p1 : Int32) (p2 : Int32) (M : gM) : Option (Int32 × gM) :=
  bI2 (F_Land_freeByDish ld p1 p2 (M 64 0) 0 M) (fun r2 M3 => some (r2, M3))
set_option maxHeartbeats 4000000 in
set_option maxRecDepth 20000 in
theorem f_Main_freeBehind {l : Launch} {ld : Nat} {M : gM} {L : gL} {Q : Option Value → gM → gL → gR → Prop} (hld : isLa ld) {p1 : Int32} {p2 : Int32}  {q : Int32 × gM} (h : F_Main_freeBehind ld p1 p2 M = some q) (hQ : Q (some (.int q.1)) q.2 L (rf ld)) : Tm l y_Main_freeBehind (0, 0, 447) 447 [.ref 0, .int p1, .int p2] M L (rf ld) Q := by
  refine Tm.of (by decide) (Nat.le_of_ble_eq_true rfl) ?_
  show Wp l y_Main_freeBehind (0, 0, 447) 447 0 0 0 [(0, .ref 0), (1, .int p1), (2, .int p2)] [] M L (rf ld) Q
  unfold F_Main_freeBehind at h
  refine g_aload_n (pc1 := 1) d_Main_freeBehind_0 rfl 0 rfl ?_
  refine g_getr (pc1 := 4) d_Main_freeBehind_1 rfl ⟨_, fo_Main_26⟩ sh_0 (by decide) (rf_0_2 ld) ?_
  refine g_iload_n (pc1 := 5) d_Main_freeBehind_4 rfl 1 rfl ?_
  refine g_iload_n (pc1 := 6) d_Main_freeBehind_5 rfl 2 rfl ?_
  refine g_aload_n (pc1 := 7) d_Main_freeBehind_6 rfl 0 rfl ?_
  refine g_getr (pc1 := 10) d_Main_freeBehind_7 rfl ⟨_, fo_Main_36⟩ sh_0 (by decide) (rf_0_4 ld) ?_
  refine g_geti (pc1 := 13) d_Main_freeBehind_10 rfl ⟨_, fo_Main_144⟩ (shSt_0 isSt_64) (ltSt_0 isSt_64) ?_
  refine g_iconst (pc1 := 14) (v := 0) d_Main_freeBehind_13 rfl (by decide) ?_
  refine g_callV0 (pc1 := 17) (As := [.int p1, .int p2, .int (M 64 0), .int 0]) (rest := []) d_Main_freeBehind_14 rfl mo_Main_254 mi_Land_freeByDish mv_Land_freeByDish rfl (shLa_0 hld) (ltLa_0 hld) (by decide) rfl rfl (Nat.le_of_ble_eq_true rfl) ?_
  obtain ⟨r2, M3, hq1, h⟩ := bnd2 h
  refine f_Land_freeByDish hld hld hq1 ?_
  dsimp only [psh]
  refine g_ireturn (Or.inl rfl) d_Main_freeBehind_17 rfl ?_
  cases h; exact hQ

def J_Main_guestsFreeTo_41 (ld : Nat) (K4 : Int32 → Int32 → gM → Option (Int32 × gM)) (v1 : Int32) (v2 : Int32) (v3 : Int32) (M : gM) : Option (Int32 × gM) :=
  nmI (v3 + 1) (fun x8 => K4 v2 x8 M)
set_option maxHeartbeats 4000000 in
set_option maxRecDepth 20000 in
theorem j_Main_guestsFreeTo_41 {l : Launch} {ld : Nat} {Q : Option Value → gM → gL → gR → Prop} (hld : isLa ld)   {q : Int32 × gM} {M : gM} {L : gL} (hQ : Q (some (.int q.1)) q.2 L (rf ld)) {K4 : Int32 → Int32 → gM → Option (Int32 × gM)} {v1 : Int32} {v2 : Int32} {v3 : Int32} (hK4 : ∀ (w2 : Int32) (w3 : Int32) (M : gM), K4 w2 w3 M = some q → Wp l y_Main_guestsFreeTo (0, 0, 447) 447 0 0 4 [(0, .ref 0), (1, .int v1), (2, .int w2), (3, .int w3)] [] M L (rf ld) Q) (h : J_Main_guestsFreeTo_41 ld K4 v1 v2 v3 M = some q) : Wp l y_Main_guestsFreeTo (0, 0, 447) 447 0 0 41 [(0, .ref 0), (1, .int v1), (2, .int v2), (3, .int v3)] [] M L (rf ld) Q := by
  unfold J_Main_guestsFreeTo_41 at h
  obtain ⟨x8, ex8, h⟩ := ltI h
  refine g_iinc (pc1 := 44) (v := x8) (lv' := [(0, .ref 0), (1, .int v1), (2, .int v2), (3, .int x8)]) d_Main_guestsFreeTo_41 rfl 3 rfl (by rw [ex8]; rfl) (by decide) [1, 2, 3, 0] rfl ?_
  refine g_goto (tgt := 4) d_Main_guestsFreeTo_44 (by decide) ?_
  exact hK4 v2 x8 M h
def B_Main_guestsFreeTo_4 (ld : Nat) (v1 : Int32) (K4 : Int32 → Int32 → gM → Option (Int32 × gM)) : Int32 → Int32 → gM → Option (Int32 × gM) := fun v2 v3 M =>
  (if (M ld 2) ≤ v3 then some (v2, M) else bI2 (F_State_freeOf 64 ld v3 0 M) (fun r3 M4 => bI (F_Main_hasBit r3 v1) (fun r6 => (if r6 = 0 then J_Main_guestsFreeTo_41 ld K4 v1 v2 v3 M4 else nmI (v2 ||| (1 <<< (v3 &&& 31))) (fun x9 => J_Main_guestsFreeTo_41 ld K4 v1 x9 v3 M4)))))
def H_Main_guestsFreeTo_4 (ld : Nat) (v1 : Int32) : Nat → Int32 → Int32 → gM → Option (Int32 × gM) := lpK (B_Main_guestsFreeTo_4 ld v1) (fun _ _ _ => none)
set_option maxHeartbeats 4000000 in
set_option maxRecDepth 20000 in
theorem h_Main_guestsFreeTo_4 {l : Launch} {ld : Nat} {Q : Option Value → gM → gL → gR → Prop} (hld : isLa ld)   {q : Int32 × gM} {L : gL} (hQ : Q (some (.int q.1)) q.2 L (rf ld))  {v1 : Int32}  : ∀ (f : Nat) (v2 : Int32) (v3 : Int32) (M : gM), H_Main_guestsFreeTo_4 ld v1 f v2 v3 M = some q → Wp l y_Main_guestsFreeTo (0, 0, 447) 447 0 0 4 [(0, .ref 0), (1, .int v1), (2, .int v2), (3, .int v3)] [] M L (rf ld) Q := by
  intro f
  induction f with
  | zero => intro v2 v3 M h; cases h
  | succ f hK4 =>
    intro v2 v3 M h
    replace h : B_Main_guestsFreeTo_4 ld v1 (H_Main_guestsFreeTo_4 ld v1 f) v2 v3 M = some q := h
    unfold B_Main_guestsFreeTo_4 at h
    refine g_iload_n (pc1 := 5) d_Main_guestsFreeTo_4 rfl 3 rfl ?_
    refine g_aload_n (pc1 := 6) d_Main_guestsFreeTo_5 rfl 0 rfl ?_
    refine g_getr (pc1 := 9) d_Main_guestsFreeTo_6 rfl ⟨_, fo_Main_26⟩ sh_0 (by decide) (rf_0_2 ld) ?_
    refine g_geti (pc1 := 12) d_Main_guestsFreeTo_9 rfl ⟨_, fo_Main_157⟩ (shLa_0 hld) (ltLa_0 hld) ?_
    refine g_icmp_ge (pc1 := 15) (tgt := 47) d_Main_guestsFreeTo_12 (by decide) rfl (fun c1 => ?_) (fun c1 => ?_)
    · replace h := itp h c1
      refine g_iload_n (pc1 := 48) d_Main_guestsFreeTo_47 rfl 2 rfl ?_
      refine g_ireturn (Or.inl rfl) d_Main_guestsFreeTo_48 rfl ?_
      cases h; exact hQ
    · replace h := itn h c1
      refine g_aload_n (pc1 := 16) d_Main_guestsFreeTo_15 rfl 0 rfl ?_
      refine g_getr (pc1 := 19) d_Main_guestsFreeTo_16 rfl ⟨_, fo_Main_36⟩ sh_0 (by decide) (rf_0_4 ld) ?_
      refine g_aload_n (pc1 := 20) d_Main_guestsFreeTo_19 rfl 0 rfl ?_
      refine g_getr (pc1 := 23) d_Main_guestsFreeTo_20 rfl ⟨_, fo_Main_26⟩ sh_0 (by decide) (rf_0_2 ld) ?_
      refine g_iload_n (pc1 := 24) d_Main_guestsFreeTo_23 rfl 3 rfl ?_
      refine g_iconst (pc1 := 25) (v := 0) d_Main_guestsFreeTo_24 rfl (by decide) ?_
      refine g_callV0 (pc1 := 28) (As := [.ref ld, .int v3, .int 0]) (rest := []) d_Main_guestsFreeTo_25 rfl mo_Main_189 mi_State_freeOf mv_State_freeOf rfl (shSt_0 isSt_64) (ltSt_0 isSt_64) (by decide) rfl rfl (Nat.le_of_ble_eq_true rfl) ?_
      obtain ⟨r3, M4, hq2, h⟩ := bnd2 h
      refine f_State_freeOf hld isSt_64 hld hq2 ?_
      dsimp only [psh]
      refine g_iload_n (pc1 := 29) d_Main_guestsFreeTo_28 rfl 1 rfl ?_
      refine g_callS0 (pc1 := 32) (As := [.int r3, .int v1]) (rest := []) d_Main_guestsFreeTo_29 rfl mo_Main_193 ms_Main_hasBit (by decide) rfl rfl (Nat.le_of_ble_eq_true rfl) ?_
      obtain ⟨r6, hq5, h⟩ := bnd h
      refine f_Main_hasBit hld  hq5 ?_
      dsimp only [psh]
      refine g_if_eq (pc1 := 35) (tgt := 41) d_Main_guestsFreeTo_32 (by decide) rfl (fun c7 => ?_) (fun c7 => ?_)
      · replace h := itp h c7
        exact j_Main_guestsFreeTo_41 hld  hQ hK4 h
      · replace h := itn h c7
        refine g_iload_n (pc1 := 36) d_Main_guestsFreeTo_35 rfl 2 rfl ?_
        refine g_iconst (pc1 := 37) (v := 1) d_Main_guestsFreeTo_36 rfl (by decide) ?_
        refine g_iload_n (pc1 := 38) d_Main_guestsFreeTo_37 rfl 3 rfl ?_
        refine g_ishl (pc1 := 39) d_Main_guestsFreeTo_38 rfl ?_
        refine g_ior (pc1 := 40) d_Main_guestsFreeTo_39 rfl ?_
        refine Wp.lI h (fun x9 h => ?_)
        refine g_istore_n (pc1 := 41) (lv' := [(0, .ref 0), (1, .int v1), (2, .int x9), (3, .int v3)]) d_Main_guestsFreeTo_40 rfl rfl (by decide) [1, 2, 0, 3] rfl ?_
        exact j_Main_guestsFreeTo_41 hld  hQ hK4 h
def F_Main_guestsFreeTo (ld : Nat) (p1 : Int32) (M : gM) : Option (Int32 × gM) :=
  H_Main_guestsFreeTo_4 ld p1 FU 0 0 M
set_option maxHeartbeats 4000000 in
set_option maxRecDepth 20000 in
theorem f_Main_guestsFreeTo {l : Launch} {ld : Nat} {M : gM} {L : gL} {Q : Option Value → gM → gL → gR → Prop} (hld : isLa ld) {p1 : Int32}  {q : Int32 × gM} (h : F_Main_guestsFreeTo ld p1 M = some q) (hQ : Q (some (.int q.1)) q.2 L (rf ld)) : Tm l y_Main_guestsFreeTo (0, 0, 447) 447 [.ref 0, .int p1] M L (rf ld) Q := by
  refine Tm.of (by decide) (Nat.le_of_ble_eq_true rfl) ?_
  show Wp l y_Main_guestsFreeTo (0, 0, 447) 447 0 0 0 [(0, .ref 0), (1, .int p1)] [] M L (rf ld) Q
  unfold F_Main_guestsFreeTo at h
  refine g_iconst (pc1 := 1) (v := 0) d_Main_guestsFreeTo_0 rfl (by decide) ?_
  refine g_istore_n (pc1 := 2) (lv' := [(0, .ref 0), (1, .int p1), (2, .int 0)]) d_Main_guestsFreeTo_1 rfl rfl (by decide) [1, 2, 0] rfl ?_
  refine g_iconst (pc1 := 3) (v := 0) d_Main_guestsFreeTo_2 rfl (by decide) ?_
  refine g_istore_n (pc1 := 4) (lv' := [(0, .ref 0), (1, .int p1), (2, .int 0), (3, .int 0)]) d_Main_guestsFreeTo_3 rfl rfl (by decide) [1, 2, 3, 0] rfl ?_
  exact h_Main_guestsFreeTo_4 hld  hQ  _ 0 0 M h

def J_Main_pinch_72 (ld : Nat) (v2 : Int32) (v3 : Int32) (v4 : Int32) (M : gM) : Option (Int32 × gM) :=
  (if v2 = 0 then some (v4, M) else some (v3, M))
set_option maxHeartbeats 4000000 in
set_option maxRecDepth 20000 in
theorem j_Main_pinch_72 {l : Launch} {ld : Nat} {Q : Option Value → gM → gL → gR → Prop} (hld : isLa ld)   {q : Int32 × gM} {M : gM} {L : gL} (hQ : Q (some (.int q.1)) q.2 L (rf ld))  {v2 : Int32} {v3 : Int32} {v4 : Int32}  (h : J_Main_pinch_72 ld v2 v3 v4 M = some q) : Wp l y_Main_pinch (0, 0, 447) 447 0 0 72 [(2, .int v2), (3, .int v3), (4, .int v4)] [] M L (rf ld) Q := by
  unfold J_Main_pinch_72 at h
  refine g_iload_n (pc1 := 73) d_Main_pinch_72 rfl 0 rfl ?_
  refine g_if_ne (pc1 := 76) (tgt := 81) d_Main_pinch_73 (by decide) rfl (fun c8 => ?_) (fun c8 => ?_)
  · replace h := itn h c8
    refine g_iload_n (pc1 := 82) d_Main_pinch_81 rfl 1 rfl ?_
    refine g_ireturn (Or.inl rfl) d_Main_pinch_82 rfl ?_
    cases h; exact hQ
  · replace h := itp h c8
    refine g_iload (pc1 := 78) d_Main_pinch_76 rfl 2 rfl ?_
    refine g_goto (tgt := 82) d_Main_pinch_78 (by decide) ?_
    refine g_ireturn (Or.inl rfl) d_Main_pinch_82 rfl ?_
    cases h; exact hQ
def J_Main_pinch_66 (ld : Nat) (K32 : Int32 → Int32 → Int32 → gM → Option (Int32 × gM)) (v1 : Int32) (v2 : Int32) (v3 : Int32) (v4 : Int32) (v5 : Int32) (M : gM) : Option (Int32 × gM) :=
  nmI (v5 + 1) (fun x13 => K32 v3 v4 x13 M)
set_option maxHeartbeats 4000000 in
set_option maxRecDepth 20000 in
theorem j_Main_pinch_66 {l : Launch} {ld : Nat} {Q : Option Value → gM → gL → gR → Prop} (hld : isLa ld)   {q : Int32 × gM} {M : gM} {L : gL} (hQ : Q (some (.int q.1)) q.2 L (rf ld)) {K32 : Int32 → Int32 → Int32 → gM → Option (Int32 × gM)} {v1 : Int32} {v2 : Int32} {v3 : Int32} {v4 : Int32} {v5 : Int32} (hK32 : ∀ (w3 : Int32) (w4 : Int32) (w5 : Int32) (M : gM), K32 w3 w4 w5 M = some q → Wp l y_Main_pinch (0, 0, 447) 447 0 0 32 [(0, .ref 0), (1, .int v1), (2, .int v2), (3, .int w3), (4, .int w4), (5, .int w5)] [] M L (rf ld) Q) (h : J_Main_pinch_66 ld K32 v1 v2 v3 v4 v5 M = some q) : Wp l y_Main_pinch (0, 0, 447) 447 0 0 66 [(0, .ref 0), (1, .int v1), (2, .int v2), (3, .int v3), (4, .int v4), (5, .int v5)] [] M L (rf ld) Q := by
  unfold J_Main_pinch_66 at h
  obtain ⟨x13, ex13, h⟩ := ltI h
  refine g_iinc (pc1 := 69) (v := x13) (lv' := [(0, .ref 0), (1, .int v1), (2, .int v2), (3, .int v3), (4, .int v4), (5, .int x13)]) d_Main_pinch_66 rfl 5 rfl (by rw [ex13]; rfl) (by decide) [1, 2, 3, 4, 5, 0] rfl ?_
  refine g_goto (tgt := 32) d_Main_pinch_69 (by decide) ?_
  exact hK32 v3 v4 x13 M h
def B_Main_pinch_32 (ld : Nat) (v1 : Int32) (v2 : Int32) (K32 : Int32 → Int32 → Int32 → gM → Option (Int32 × gM)) : Int32 → Int32 → Int32 → gM → Option (Int32 × gM) := fun v3 v4 v5 M =>
  (if (M ld 0) ≤ v5 then J_Main_pinch_72 ld v2 v3 v4 M else bI2 (F_Main_changeBy ld v1 v5 M) (fun r10 M11 => (if r10 ≤ v3 then J_Main_pinch_66 ld K32 v1 v2 v3 v4 v5 M11 else J_Main_pinch_66 ld K32 v1 v2 r10 v5 v5 M11)))
def H_Main_pinch_32 (ld : Nat) (v1 : Int32) (v2 : Int32) : Nat → Int32 → Int32 → Int32 → gM → Option (Int32 × gM) := lpK (B_Main_pinch_32 ld v1 v2) (fun _ _ _ _ => none)
set_option maxHeartbeats 4000000 in
set_option maxRecDepth 20000 in
theorem h_Main_pinch_32 {l : Launch} {ld : Nat} {Q : Option Value → gM → gL → gR → Prop} (hld : isLa ld)   {q : Int32 × gM} {L : gL} (hQ : Q (some (.int q.1)) q.2 L (rf ld))  {v1 : Int32} {v2 : Int32}  : ∀ (f : Nat) (v3 : Int32) (v4 : Int32) (v5 : Int32) (M : gM), H_Main_pinch_32 ld v1 v2 f v3 v4 v5 M = some q → Wp l y_Main_pinch (0, 0, 447) 447 0 0 32 [(0, .ref 0), (1, .int v1), (2, .int v2), (3, .int v3), (4, .int v4), (5, .int v5)] [] M L (rf ld) Q := by
  intro f
  induction f with
  | zero => intro v3 v4 v5 M h; cases h
  | succ f hK32 =>
    intro v3 v4 v5 M h
    replace h : B_Main_pinch_32 ld v1 v2 (H_Main_pinch_32 ld v1 v2 f) v3 v4 v5 M = some q := h
    unfold B_Main_pinch_32 at h
    refine g_iload (pc1 := 34) d_Main_pinch_32 rfl 5 rfl ?_
    refine g_aload_n (pc1 := 35) d_Main_pinch_34 rfl 0 rfl ?_
    refine g_getr (pc1 := 38) d_Main_pinch_35 rfl ⟨_, fo_Main_26⟩ sh_0 (by decide) (rf_0_2 ld) ?_
    refine g_geti (pc1 := 41) d_Main_pinch_38 rfl ⟨_, fo_Main_109⟩ (shLa_0 hld) (ltLa_0 hld) ?_
    refine g_icmp_ge (pc1 := 44) (tgt := 72) d_Main_pinch_41 (by decide) rfl (fun c7 => ?_) (fun c7 => ?_)
    · replace h := itp h c7
      refine Wp.loc (lv' := [(2, .int v2), (3, .int v3), (4, .int v4)]) [2, 3, 4] rfl ?_
      exact j_Main_pinch_72 hld  hQ  h
    · replace h := itn h c7
      refine g_aload_n (pc1 := 45) d_Main_pinch_44 rfl 0 rfl ?_
      refine g_iload_n (pc1 := 46) d_Main_pinch_45 rfl 1 rfl ?_
      refine g_iload (pc1 := 48) d_Main_pinch_46 rfl 5 rfl ?_
      refine g_callV0 (pc1 := 51) (As := [.int v1, .int v5]) (rest := []) d_Main_pinch_48 rfl mo_Main_235 mi_Main_changeBy mv_Main_changeBy rfl sh_0 (by decide) (by decide) rfl rfl (Nat.le_of_ble_eq_true rfl) ?_
      obtain ⟨r10, M11, hq9, h⟩ := bnd2 h
      refine f_Main_changeBy hld  hq9 ?_
      dsimp only [psh]
      refine g_istore (pc1 := 53) (lv' := [(0, .ref 0), (1, .int v1), (2, .int v2), (3, .int v3), (4, .int v4), (5, .int v5), (6, .int r10)]) d_Main_pinch_51 rfl (by decide) [1, 2, 3, 4, 5, 6, 0] rfl ?_
      refine g_iload (pc1 := 55) d_Main_pinch_53 rfl 6 rfl ?_
      refine g_iload_n (pc1 := 56) d_Main_pinch_55 rfl 3 rfl ?_
      refine g_icmp_le (pc1 := 59) (tgt := 66) d_Main_pinch_56 (by decide) rfl (fun c12 => ?_) (fun c12 => ?_)
      · replace h := itp h c12
        refine Wp.loc (lv' := [(0, .ref 0), (1, .int v1), (2, .int v2), (3, .int v3), (4, .int v4), (5, .int v5)]) [0, 1, 2, 3, 4, 5] rfl ?_
        exact j_Main_pinch_66 hld  hQ hK32 h
      · replace h := itn h c12
        refine g_iload (pc1 := 61) d_Main_pinch_59 rfl 6 rfl ?_
        refine g_istore_n (pc1 := 62) (lv' := [(0, .ref 0), (1, .int v1), (2, .int v2), (3, .int r10), (4, .int v4), (5, .int v5), (6, .int r10)]) d_Main_pinch_61 rfl rfl (by decide) [1, 2, 3, 0, 4, 5, 6] rfl ?_
        refine g_iload (pc1 := 64) d_Main_pinch_62 rfl 5 rfl ?_
        refine g_istore (pc1 := 66) (lv' := [(0, .ref 0), (1, .int v1), (2, .int v2), (3, .int r10), (4, .int v5), (5, .int v5), (6, .int r10)]) d_Main_pinch_64 rfl (by decide) [1, 2, 3, 4, 0, 5, 6] rfl ?_
        refine Wp.loc (lv' := [(0, .ref 0), (1, .int v1), (2, .int v2), (3, .int r10), (4, .int v5), (5, .int v5)]) [0, 1, 2, 3, 4, 5] rfl ?_
        exact j_Main_pinch_66 hld  hQ hK32 h
def F_Main_pinch (ld : Nat) (p1 : Int32) (p2 : Int32) (M : gM) : Option (Int32 × gM) :=
  bI (F_Main_isOne p1 (M ld 1)) (fun r2 => (if r2 = 0 then some ((-1), M) else bI (F_Main_isOne p2 2) (fun r5 => (if r5 = 0 then some ((-1), M) else H_Main_pinch_32 ld p1 p2 FU (-1) (-1) 0 M))))
set_option maxHeartbeats 4000000 in
set_option maxRecDepth 20000 in
theorem f_Main_pinch {l : Launch} {ld : Nat} {M : gM} {L : gL} {Q : Option Value → gM → gL → gR → Prop} (hld : isLa ld) {p1 : Int32} {p2 : Int32}  {q : Int32 × gM} (h : F_Main_pinch ld p1 p2 M = some q) (hQ : Q (some (.int q.1)) q.2 L (rf ld)) : Tm l y_Main_pinch (0, 0, 447) 447 [.ref 0, .int p1, .int p2] M L (rf ld) Q := by
  refine Tm.of (by decide) (Nat.le_of_ble_eq_true rfl) ?_
  show Wp l y_Main_pinch (0, 0, 447) 447 0 0 0 [(0, .ref 0), (1, .int p1), (2, .int p2)] [] M L (rf ld) Q
  unfold F_Main_pinch at h
  refine g_iload_n (pc1 := 1) d_Main_pinch_0 rfl 1 rfl ?_
  refine g_aload_n (pc1 := 2) d_Main_pinch_1 rfl 0 rfl ?_
  refine g_getr (pc1 := 5) d_Main_pinch_2 rfl ⟨_, fo_Main_26⟩ sh_0 (by decide) (rf_0_2 ld) ?_
  refine g_geti (pc1 := 8) d_Main_pinch_5 rfl ⟨_, fo_Main_131⟩ (shLa_0 hld) (ltLa_0 hld) ?_
  refine g_callS0 (pc1 := 11) (As := [.int p1, .int (M ld 1)]) (rest := []) d_Main_pinch_8 rfl mo_Main_112 ms_Main_isOne (by decide) rfl rfl (Nat.le_of_ble_eq_true rfl) ?_
  obtain ⟨r2, hq1, h⟩ := bnd h
  refine f_Main_isOne hld  hq1 ?_
  dsimp only [psh]
  refine g_if_eq (pc1 := 14) (tgt := 22) d_Main_pinch_11 (by decide) rfl (fun c3 => ?_) (fun c3 => ?_)
  · replace h := itp h c3
    refine g_iconst (pc1 := 23) (v := (-1)) d_Main_pinch_22 rfl (by decide) ?_
    refine g_ireturn (Or.inl rfl) d_Main_pinch_23 rfl ?_
    cases h; exact hQ
  · replace h := itn h c3
    refine g_iload_n (pc1 := 15) d_Main_pinch_14 rfl 2 rfl ?_
    refine g_iconst (pc1 := 16) (v := 2) d_Main_pinch_15 rfl (by decide) ?_
    refine g_callS0 (pc1 := 19) (As := [.int p2, .int 2]) (rest := []) d_Main_pinch_16 rfl mo_Main_112 ms_Main_isOne (by decide) rfl rfl (Nat.le_of_ble_eq_true rfl) ?_
    obtain ⟨r5, hq4, h⟩ := bnd h
    refine f_Main_isOne hld  hq4 ?_
    dsimp only [psh]
    refine g_if_ne (pc1 := 22) (tgt := 24) d_Main_pinch_19 (by decide) rfl (fun c6 => ?_) (fun c6 => ?_)
    · replace h := itn h c6
      refine g_iconst (pc1 := 25) (v := (-1)) d_Main_pinch_24 rfl (by decide) ?_
      refine g_istore_n (pc1 := 26) (lv' := [(0, .ref 0), (1, .int p1), (2, .int p2), (3, .int (-1))]) d_Main_pinch_25 rfl rfl (by decide) [1, 2, 3, 0] rfl ?_
      refine g_iconst (pc1 := 27) (v := (-1)) d_Main_pinch_26 rfl (by decide) ?_
      refine g_istore (pc1 := 29) (lv' := [(0, .ref 0), (1, .int p1), (2, .int p2), (3, .int (-1)), (4, .int (-1))]) d_Main_pinch_27 rfl (by decide) [1, 2, 3, 4, 0] rfl ?_
      refine g_iconst (pc1 := 30) (v := 0) d_Main_pinch_29 rfl (by decide) ?_
      refine g_istore (pc1 := 32) (lv' := [(0, .ref 0), (1, .int p1), (2, .int p2), (3, .int (-1)), (4, .int (-1)), (5, .int 0)]) d_Main_pinch_30 rfl (by decide) [1, 2, 3, 4, 5, 0] rfl ?_
      exact h_Main_pinch_32 hld  hQ  _ (-1) (-1) 0 M h
    · replace h := itp h c6
      refine g_iconst (pc1 := 23) (v := (-1)) d_Main_pinch_22 rfl (by decide) ?_
      refine g_ireturn (Or.inl rfl) d_Main_pinch_23 rfl ?_
      cases h; exact hQ

def J_Main_year_126 (ld : Nat) (K70 : Int32 → Int32 → gM → Option (Int32 × gM)) (v1 : Int32) (v2 : Int32) (v3 : Int32) (v4 : Int32) (v5 : Int32) (v6 : Int32) (M : gM) : Option (Int32 × gM) :=
  nmI (v6 + 1) (fun x23 => K70 v5 x23 M)
set_option maxHeartbeats 4000000 in
set_option maxRecDepth 20000 in
theorem j_Main_year_126 {l : Launch} {ld : Nat} {Q : Option Value → gM → gL → gR → Prop} (hld : isLa ld)   {q : Int32 × gM} {M : gM} {L : gL} (hQ : Q (some (.int q.1)) q.2 L (rf ld)) {K70 : Int32 → Int32 → gM → Option (Int32 × gM)} {v1 : Int32} {v2 : Int32} {v3 : Int32} {v4 : Int32} {v5 : Int32} {v6 : Int32} (hK70 : ∀ (w5 : Int32) (w6 : Int32) (M : gM), K70 w5 w6 M = some q → Wp l y_Main_year (0, 0, 447) 447 0 0 70 [(0, .ref 0), (1, .int v1), (2, .int v2), (3, .int v3), (4, .int v4), (5, .int w5), (6, .int w6)] [] M L (rf ld) Q) (h : J_Main_year_126 ld K70 v1 v2 v3 v4 v5 v6 M = some q) : Wp l y_Main_year (0, 0, 447) 447 0 0 126 [(0, .ref 0), (1, .int v1), (2, .int v2), (3, .int v3), (4, .int v4), (5, .int v5), (6, .int v6)] [] M L (rf ld) Q := by
  unfold J_Main_year_126 at h
  obtain ⟨x23, ex23, h⟩ := ltI h
  refine g_iinc (pc1 := 129) (v := x23) (lv' := [(0, .ref 0), (1, .int v1), (2, .int v2), (3, .int v3), (4, .int v4), (5, .int v5), (6, .int x23)]) d_Main_year_126 rfl 6 rfl (by rw [ex23]; rfl) (by decide) [1, 2, 3, 4, 5, 6, 0] rfl ?_
  refine g_goto (tgt := 70) d_Main_year_129 (by decide) ?_
  exact hK70 v5 x23 M h
def B_Main_year_70 (ld : Nat) (v1 : Int32) (v2 : Int32) (v3 : Int32) (v4 : Int32) (K70 : Int32 → Int32 → gM → Option (Int32 × gM)) : Int32 → Int32 → gM → Option (Int32 × gM) := fun v5 v6 M =>
  (if v4 ≤ v6 then some (v5, M) else bI2 (F_State_slipInto 64 ld v1 ((M ld 4) + v6) M) (fun r17 M18 => bI2 (F_Land_dishForce ld v1 r17 v2 (M18 64 0) M18) (fun r20 M21 => (if r20 < v3 then J_Main_year_126 ld K70 v1 v2 v3 v4 v5 v6 M21 else nmI (v5 + 1) (fun x24 => J_Main_year_126 ld K70 v1 v2 v3 v4 x24 v6 M21)))))
def H_Main_year_70 (ld : Nat) (v1 : Int32) (v2 : Int32) (v3 : Int32) (v4 : Int32) : Nat → Int32 → Int32 → gM → Option (Int32 × gM) := lpK (B_Main_year_70 ld v1 v2 v3 v4) (fun _ _ _ => none)
set_option maxHeartbeats 4000000 in
set_option maxRecDepth 20000 in
theorem h_Main_year_70 {l : Launch} {ld : Nat} {Q : Option Value → gM → gL → gR → Prop} (hld : isLa ld)   {q : Int32 × gM} {L : gL} (hQ : Q (some (.int q.1)) q.2 L (rf ld))  {v1 : Int32} {v2 : Int32} {v3 : Int32} {v4 : Int32}  : ∀ (f : Nat) (v5 : Int32) (v6 : Int32) (M : gM), H_Main_year_70 ld v1 v2 v3 v4 f v5 v6 M = some q → Wp l y_Main_year (0, 0, 447) 447 0 0 70 [(0, .ref 0), (1, .int v1), (2, .int v2), (3, .int v3), (4, .int v4), (5, .int v5), (6, .int v6)] [] M L (rf ld) Q := by
  intro f
  induction f with
  | zero => intro v5 v6 M h; cases h
  | succ f hK70 =>
    intro v5 v6 M h
    replace h : B_Main_year_70 ld v1 v2 v3 v4 (H_Main_year_70 ld v1 v2 v3 v4 f) v5 v6 M = some q := h
    unfold B_Main_year_70 at h
    refine g_iload (pc1 := 72) d_Main_year_70 rfl 6 rfl ?_
    refine g_iload (pc1 := 74) d_Main_year_72 rfl 4 rfl ?_
    refine g_icmp_ge (pc1 := 77) (tgt := 132) d_Main_year_74 (by decide) rfl (fun c15 => ?_) (fun c15 => ?_)
    · replace h := itp h c15
      refine g_iload (pc1 := 134) d_Main_year_132 rfl 5 rfl ?_
      refine g_ireturn (Or.inl rfl) d_Main_year_134 rfl ?_
      cases h; exact hQ
    · replace h := itn h c15
      refine g_aload_n (pc1 := 78) d_Main_year_77 rfl 0 rfl ?_
      refine g_getr (pc1 := 81) d_Main_year_78 rfl ⟨_, fo_Main_36⟩ sh_0 (by decide) (rf_0_4 ld) ?_
      refine g_aload_n (pc1 := 82) d_Main_year_81 rfl 0 rfl ?_
      refine g_getr (pc1 := 85) d_Main_year_82 rfl ⟨_, fo_Main_26⟩ sh_0 (by decide) (rf_0_2 ld) ?_
      refine g_iload_n (pc1 := 86) d_Main_year_85 rfl 1 rfl ?_
      refine g_aload_n (pc1 := 87) d_Main_year_86 rfl 0 rfl ?_
      refine g_getr (pc1 := 90) d_Main_year_87 rfl ⟨_, fo_Main_26⟩ sh_0 (by decide) (rf_0_2 ld) ?_
      refine g_geti (pc1 := 93) d_Main_year_90 rfl ⟨_, fo_Main_265⟩ (shLa_0 hld) (ltLa_0 hld) ?_
      refine g_iload (pc1 := 95) d_Main_year_93 rfl 6 rfl ?_
      refine g_iadd (pc1 := 96) d_Main_year_95 rfl ?_
      refine g_callV0 (pc1 := 99) (As := [.ref ld, .int v1, .int ((M ld 4) + v6)]) (rest := []) d_Main_year_96 rfl mo_Main_268 mi_State_slipInto mv_State_slipInto rfl (shSt_0 isSt_64) (ltSt_0 isSt_64) (by decide) rfl rfl (Nat.le_of_ble_eq_true rfl) ?_
      obtain ⟨r17, M18, hq16, h⟩ := bnd2 h
      refine f_State_slipInto hld isSt_64 hld hq16 ?_
      dsimp only [psh]
      refine g_istore (pc1 := 101) (lv' := [(0, .ref 0), (1, .int v1), (2, .int v2), (3, .int v3), (4, .int v4), (5, .int v5), (6, .int v6), (7, .int r17)]) d_Main_year_99 rfl (by decide) [1, 2, 3, 4, 5, 6, 7, 0] rfl ?_
      refine g_aload_n (pc1 := 102) d_Main_year_101 rfl 0 rfl ?_
      refine g_getr (pc1 := 105) d_Main_year_102 rfl ⟨_, fo_Main_26⟩ sh_0 (by decide) (rf_0_2 ld) ?_
      refine g_iload_n (pc1 := 106) d_Main_year_105 rfl 1 rfl ?_
      refine g_iload (pc1 := 108) d_Main_year_106 rfl 7 rfl ?_
      refine g_iload_n (pc1 := 109) d_Main_year_108 rfl 2 rfl ?_
      refine g_aload_n (pc1 := 110) d_Main_year_109 rfl 0 rfl ?_
      refine g_getr (pc1 := 113) d_Main_year_110 rfl ⟨_, fo_Main_36⟩ sh_0 (by decide) (rf_0_4 ld) ?_
      refine g_geti (pc1 := 116) d_Main_year_113 rfl ⟨_, fo_Main_144⟩ (shSt_0 isSt_64) (ltSt_0 isSt_64) ?_
      refine g_callV0 (pc1 := 119) (As := [.int v1, .int r17, .int v2, .int (M18 64 0)]) (rest := []) d_Main_year_116 rfl mo_Main_147 mi_Land_dishForce mv_Land_dishForce rfl (shLa_0 hld) (ltLa_0 hld) (by decide) rfl rfl (Nat.le_of_ble_eq_true rfl) ?_
      obtain ⟨r20, M21, hq19, h⟩ := bnd2 h
      refine f_Land_dishForce hld hld hq19 ?_
      dsimp only [psh]
      refine g_iload_n (pc1 := 120) d_Main_year_119 rfl 3 rfl ?_
      refine g_icmp_lt (pc1 := 123) (tgt := 126) d_Main_year_120 (by decide) rfl (fun c22 => ?_) (fun c22 => ?_)
      · replace h := itp h c22
        refine Wp.loc (lv' := [(0, .ref 0), (1, .int v1), (2, .int v2), (3, .int v3), (4, .int v4), (5, .int v5), (6, .int v6)]) [0, 1, 2, 3, 4, 5, 6] rfl ?_
        exact j_Main_year_126 hld  hQ hK70 h
      · replace h := itn h c22
        obtain ⟨x24, ex24, h⟩ := ltI h
        refine g_iinc (pc1 := 126) (v := x24) (lv' := [(0, .ref 0), (1, .int v1), (2, .int v2), (3, .int v3), (4, .int v4), (5, .int x24), (6, .int v6), (7, .int r17)]) d_Main_year_123 rfl 5 rfl (by rw [ex24]; rfl) (by decide) [1, 2, 3, 4, 5, 0, 6, 7] rfl ?_
        refine Wp.loc (lv' := [(0, .ref 0), (1, .int v1), (2, .int v2), (3, .int v3), (4, .int v4), (5, .int x24), (6, .int v6)]) [0, 1, 2, 3, 4, 5, 6] rfl ?_
        exact j_Main_year_126 hld  hQ hK70 h
def F_Main_year (ld : Nat) (p1 : Int32) (p2 : Int32) (p3 : Int32) (p4 : Int32) (M : gM) : Option (Int32 × gM) :=
  bI (F_Main_isOne p1 (M ld 1)) (fun r2 => (if r2 = 0 then some ((-1), M) else bI (F_Main_isOne p2 3) (fun r5 => (if r5 = 0 then some ((-1), M) else bI (F_Main_isOne p3 100) (fun r8 => (if r8 = 0 then some ((-1), M) else (if p4 < 1 then some ((-1), M) else (if p4 ≤ 20 then bI (F_State_inStore 64 ld p1 M) (fun r13 => (if r13 = 0 then some ((-2), M) else H_Main_year_70 ld p1 p2 p3 p4 FU 0 0 M)) else some ((-1), M)))))))))
set_option maxHeartbeats 4000000 in
set_option maxRecDepth 20000 in
theorem f_Main_year {l : Launch} {ld : Nat} {M : gM} {L : gL} {Q : Option Value → gM → gL → gR → Prop} (hld : isLa ld) {p1 : Int32} {p2 : Int32} {p3 : Int32} {p4 : Int32}  {q : Int32 × gM} (h : F_Main_year ld p1 p2 p3 p4 M = some q) (hQ : Q (some (.int q.1)) q.2 L (rf ld)) : Tm l y_Main_year (0, 0, 447) 447 [.ref 0, .int p1, .int p2, .int p3, .int p4] M L (rf ld) Q := by
  refine Tm.of (by decide) (Nat.le_of_ble_eq_true rfl) ?_
  show Wp l y_Main_year (0, 0, 447) 447 0 0 0 [(0, .ref 0), (1, .int p1), (2, .int p2), (3, .int p3), (4, .int p4)] [] M L (rf ld) Q
  unfold F_Main_year at h
  refine g_iload_n (pc1 := 1) d_Main_year_0 rfl 1 rfl ?_
  refine g_aload_n (pc1 := 2) d_Main_year_1 rfl 0 rfl ?_
  refine g_getr (pc1 := 5) d_Main_year_2 rfl ⟨_, fo_Main_26⟩ sh_0 (by decide) (rf_0_2 ld) ?_
  refine g_geti (pc1 := 8) d_Main_year_5 rfl ⟨_, fo_Main_131⟩ (shLa_0 hld) (ltLa_0 hld) ?_
  refine g_callS0 (pc1 := 11) (As := [.int p1, .int (M ld 1)]) (rest := []) d_Main_year_8 rfl mo_Main_112 ms_Main_isOne (by decide) rfl rfl (Nat.le_of_ble_eq_true rfl) ?_
  obtain ⟨r2, hq1, h⟩ := bnd h
  refine f_Main_isOne hld  hq1 ?_
  dsimp only [psh]
  refine g_if_eq (pc1 := 14) (tgt := 44) d_Main_year_11 (by decide) rfl (fun c3 => ?_) (fun c3 => ?_)
  · replace h := itp h c3
    refine g_iconst (pc1 := 45) (v := (-1)) d_Main_year_44 rfl (by decide) ?_
    refine g_ireturn (Or.inl rfl) d_Main_year_45 rfl ?_
    cases h; exact hQ
  · replace h := itn h c3
    refine g_iload_n (pc1 := 15) d_Main_year_14 rfl 2 rfl ?_
    refine g_iconst (pc1 := 16) (v := 3) d_Main_year_15 rfl (by decide) ?_
    refine g_callS0 (pc1 := 19) (As := [.int p2, .int 3]) (rest := []) d_Main_year_16 rfl mo_Main_112 ms_Main_isOne (by decide) rfl rfl (Nat.le_of_ble_eq_true rfl) ?_
    obtain ⟨r5, hq4, h⟩ := bnd h
    refine f_Main_isOne hld  hq4 ?_
    dsimp only [psh]
    refine g_if_eq (pc1 := 22) (tgt := 44) d_Main_year_19 (by decide) rfl (fun c6 => ?_) (fun c6 => ?_)
    · replace h := itp h c6
      refine g_iconst (pc1 := 45) (v := (-1)) d_Main_year_44 rfl (by decide) ?_
      refine g_ireturn (Or.inl rfl) d_Main_year_45 rfl ?_
      cases h; exact hQ
    · replace h := itn h c6
      refine g_iload_n (pc1 := 23) d_Main_year_22 rfl 3 rfl ?_
      refine g_bipush (pc1 := 25) (v := 100) d_Main_year_23 rfl (by decide) ?_
      refine g_callS0 (pc1 := 28) (As := [.int p3, .int 100]) (rest := []) d_Main_year_25 rfl mo_Main_112 ms_Main_isOne (by decide) rfl rfl (Nat.le_of_ble_eq_true rfl) ?_
      obtain ⟨r8, hq7, h⟩ := bnd h
      refine f_Main_isOne hld  hq7 ?_
      dsimp only [psh]
      refine g_if_eq (pc1 := 31) (tgt := 44) d_Main_year_28 (by decide) rfl (fun c9 => ?_) (fun c9 => ?_)
      · replace h := itp h c9
        refine g_iconst (pc1 := 45) (v := (-1)) d_Main_year_44 rfl (by decide) ?_
        refine g_ireturn (Or.inl rfl) d_Main_year_45 rfl ?_
        cases h; exact hQ
      · replace h := itn h c9
        refine g_iload (pc1 := 33) d_Main_year_31 rfl 4 rfl ?_
        refine g_iconst (pc1 := 34) (v := 1) d_Main_year_33 rfl (by decide) ?_
        refine g_icmp_lt (pc1 := 37) (tgt := 44) d_Main_year_34 (by decide) rfl (fun c10 => ?_) (fun c10 => ?_)
        · replace h := itp h c10
          refine g_iconst (pc1 := 45) (v := (-1)) d_Main_year_44 rfl (by decide) ?_
          refine g_ireturn (Or.inl rfl) d_Main_year_45 rfl ?_
          cases h; exact hQ
        · replace h := itn h c10
          refine g_iload (pc1 := 39) d_Main_year_37 rfl 4 rfl ?_
          refine g_bipush (pc1 := 41) (v := 20) d_Main_year_39 rfl (by decide) ?_
          refine g_icmp_le (pc1 := 44) (tgt := 46) d_Main_year_41 (by decide) rfl (fun c11 => ?_) (fun c11 => ?_)
          · replace h := itp h c11
            refine g_aload_n (pc1 := 47) d_Main_year_46 rfl 0 rfl ?_
            refine g_getr (pc1 := 50) d_Main_year_47 rfl ⟨_, fo_Main_36⟩ sh_0 (by decide) (rf_0_4 ld) ?_
            refine g_aload_n (pc1 := 51) d_Main_year_50 rfl 0 rfl ?_
            refine g_getr (pc1 := 54) d_Main_year_51 rfl ⟨_, fo_Main_26⟩ sh_0 (by decide) (rf_0_2 ld) ?_
            refine g_iload_n (pc1 := 55) d_Main_year_54 rfl 1 rfl ?_
            refine g_callV0 (pc1 := 58) (As := [.ref ld, .int p1]) (rest := []) d_Main_year_55 rfl mo_Main_196 mi_State_inStore mv_State_inStore rfl (shSt_0 isSt_64) (ltSt_0 isSt_64) (by decide) rfl rfl (Nat.le_of_ble_eq_true rfl) ?_
            obtain ⟨r13, hq12, h⟩ := bnd h
            refine f_State_inStore hld isSt_64 hld hq12 ?_
            dsimp only [psh]
            refine g_if_ne (pc1 := 61) (tgt := 64) d_Main_year_58 (by decide) rfl (fun c14 => ?_) (fun c14 => ?_)
            · replace h := itn h c14
              refine g_iconst (pc1 := 65) (v := 0) d_Main_year_64 rfl (by decide) ?_
              refine g_istore (pc1 := 67) (lv' := [(0, .ref 0), (1, .int p1), (2, .int p2), (3, .int p3), (4, .int p4), (5, .int 0)]) d_Main_year_65 rfl (by decide) [1, 2, 3, 4, 5, 0] rfl ?_
              refine g_iconst (pc1 := 68) (v := 0) d_Main_year_67 rfl (by decide) ?_
              refine g_istore (pc1 := 70) (lv' := [(0, .ref 0), (1, .int p1), (2, .int p2), (3, .int p3), (4, .int p4), (5, .int 0), (6, .int 0)]) d_Main_year_68 rfl (by decide) [1, 2, 3, 4, 5, 6, 0] rfl ?_
              exact h_Main_year_70 hld  hQ  _ 0 0 M h
            · replace h := itp h c14
              refine g_bipush (pc1 := 63) (v := (-2)) d_Main_year_61 rfl (by decide) ?_
              refine g_ireturn (Or.inl rfl) d_Main_year_63 rfl ?_
              cases h; exact hQ
          · replace h := itn h c11
            refine g_iconst (pc1 := 45) (v := (-1)) d_Main_year_44 rfl (by decide) ?_
            refine g_ireturn (Or.inl rfl) d_Main_year_45 rfl ?_
            cases h; exact hQ

def J_MenuSearch_lookFed_111 (Ld1 : Nat) (K3 : Int32 → gM → Option (gM)) (v2 : Int32) (v3 : Int32) (v4 : Int32) (v5 : Int32) (v6 : Int32) (M : gM) : Option (gM) :=
  nmI (v6 + 1) (fun x3 => K3 x3 M)
set_option maxHeartbeats 4000000 in
set_option maxRecDepth 20000 in
theorem j_MenuSearch_lookFed_111 {l : Launch} {ld : Nat} {Q : Option Value → gM → gL → gR → Prop} (hld : isLa ld) {Ld1 : Nat} (hLd1 : isLa Ld1) {q : gM} {M : gM} {L : gL} (hQ : Q none q L (rf ld)) {K3 : Int32 → gM → Option (gM)} {v2 : Int32} {v3 : Int32} {v4 : Int32} {v5 : Int32} {v6 : Int32} (hK3 : ∀ (w6 : Int32) (M : gM), K3 w6 M = some q → Wp l y_MenuSearch_lookFed (0, 0, 447) 447 0 0 3 [(0, .ref 396), (1, .ref Ld1), (2, .int v2), (3, .int v3), (4, .int v4), (5, .int v5), (6, .int w6)] [] M L (rf ld) Q) (h : J_MenuSearch_lookFed_111 Ld1 K3 v2 v3 v4 v5 v6 M = some q) : Wp l y_MenuSearch_lookFed (0, 0, 447) 447 0 0 111 [(0, .ref 396), (1, .ref Ld1), (2, .int v2), (3, .int v3), (4, .int v4), (5, .int v5), (6, .int v6)] [] M L (rf ld) Q := by
  unfold J_MenuSearch_lookFed_111 at h
  obtain ⟨x3, ex3, h⟩ := ltI h
  refine g_iinc (pc1 := 114) (v := x3) (lv' := [(0, .ref 396), (1, .ref Ld1), (2, .int v2), (3, .int v3), (4, .int v4), (5, .int v5), (6, .int x3)]) d_MenuSearch_lookFed_111 rfl 6 rfl (by rw [ex3]; rfl) (by decide) [1, 2, 3, 4, 5, 6, 0] rfl ?_
  refine g_goto (tgt := 3) d_MenuSearch_lookFed_114 (by decide) ?_
  exact hK3 x3 M h
def J_MenuSearch_lookFed_105 (Ld1 : Nat) (K3 : Int32 → gM → Option (gM)) (K13 : Int32 → gM → Option (gM)) (v2 : Int32) (v3 : Int32) (v4 : Int32) (v5 : Int32) (v6 : Int32) (v7 : Int32) (M : gM) : Option (gM) :=
  nmI (v7 + 1) (fun x5 => K13 x5 M)
set_option maxHeartbeats 4000000 in
set_option maxRecDepth 20000 in
theorem j_MenuSearch_lookFed_105 {l : Launch} {ld : Nat} {Q : Option Value → gM → gL → gR → Prop} (hld : isLa ld) {Ld1 : Nat} (hLd1 : isLa Ld1) {q : gM} {M : gM} {L : gL} (hQ : Q none q L (rf ld)) {K3 : Int32 → gM → Option (gM)} {K13 : Int32 → gM → Option (gM)} {v2 : Int32} {v3 : Int32} {v4 : Int32} {v5 : Int32} {v6 : Int32} {v7 : Int32} (hK3 : ∀ (w6 : Int32) (M : gM), K3 w6 M = some q → Wp l y_MenuSearch_lookFed (0, 0, 447) 447 0 0 3 [(0, .ref 396), (1, .ref Ld1), (2, .int v2), (3, .int v3), (4, .int v4), (5, .int v5), (6, .int w6)] [] M L (rf ld) Q) (hK13 : ∀ (w7 : Int32) (M : gM), K13 w7 M = some q → Wp l y_MenuSearch_lookFed (0, 0, 447) 447 0 0 13 [(0, .ref 396), (1, .ref Ld1), (2, .int v2), (3, .int v3), (4, .int v4), (5, .int v5), (6, .int v6), (7, .int w7)] [] M L (rf ld) Q) (h : J_MenuSearch_lookFed_105 Ld1 K3 K13 v2 v3 v4 v5 v6 v7 M = some q) : Wp l y_MenuSearch_lookFed (0, 0, 447) 447 0 0 105 [(0, .ref 396), (1, .ref Ld1), (2, .int v2), (3, .int v3), (4, .int v4), (5, .int v5), (6, .int v6), (7, .int v7)] [] M L (rf ld) Q := by
  unfold J_MenuSearch_lookFed_105 at h
  obtain ⟨x5, ex5, h⟩ := ltI h
  refine g_iinc (pc1 := 108) (v := x5) (lv' := [(0, .ref 396), (1, .ref Ld1), (2, .int v2), (3, .int v3), (4, .int v4), (5, .int v5), (6, .int v6), (7, .int x5)]) d_MenuSearch_lookFed_105 rfl 7 rfl (by rw [ex5]; rfl) (by decide) [1, 2, 3, 4, 5, 6, 7, 0] rfl ?_
  refine g_goto (tgt := 13) d_MenuSearch_lookFed_108 (by decide) ?_
  exact hK13 x5 M h
def J_MenuSearch_lookFed_99 (Ld1 : Nat) (K3 : Int32 → gM → Option (gM)) (K13 : Int32 → gM → Option (gM)) (K26 : Int32 → gM → Option (gM)) (v2 : Int32) (v3 : Int32) (v4 : Int32) (v5 : Int32) (v6 : Int32) (v7 : Int32) (v8 : Int32) (M : gM) : Option (gM) :=
  nmI (v8 + 1) (fun x12 => K26 x12 M)
set_option maxHeartbeats 4000000 in
set_option maxRecDepth 20000 in
theorem j_MenuSearch_lookFed_99 {l : Launch} {ld : Nat} {Q : Option Value → gM → gL → gR → Prop} (hld : isLa ld) {Ld1 : Nat} (hLd1 : isLa Ld1) {q : gM} {M : gM} {L : gL} (hQ : Q none q L (rf ld)) {K3 : Int32 → gM → Option (gM)} {K13 : Int32 → gM → Option (gM)} {K26 : Int32 → gM → Option (gM)} {v2 : Int32} {v3 : Int32} {v4 : Int32} {v5 : Int32} {v6 : Int32} {v7 : Int32} {v8 : Int32} (hK3 : ∀ (w6 : Int32) (M : gM), K3 w6 M = some q → Wp l y_MenuSearch_lookFed (0, 0, 447) 447 0 0 3 [(0, .ref 396), (1, .ref Ld1), (2, .int v2), (3, .int v3), (4, .int v4), (5, .int v5), (6, .int w6)] [] M L (rf ld) Q) (hK13 : ∀ (w7 : Int32) (M : gM), K13 w7 M = some q → Wp l y_MenuSearch_lookFed (0, 0, 447) 447 0 0 13 [(0, .ref 396), (1, .ref Ld1), (2, .int v2), (3, .int v3), (4, .int v4), (5, .int v5), (6, .int v6), (7, .int w7)] [] M L (rf ld) Q) (hK26 : ∀ (w8 : Int32) (M : gM), K26 w8 M = some q → Wp l y_MenuSearch_lookFed (0, 0, 447) 447 0 0 26 [(0, .ref 396), (1, .ref Ld1), (2, .int v2), (3, .int v3), (4, .int v4), (5, .int v5), (6, .int v6), (7, .int v7), (8, .int w8)] [] M L (rf ld) Q) (h : J_MenuSearch_lookFed_99 Ld1 K3 K13 K26 v2 v3 v4 v5 v6 v7 v8 M = some q) : Wp l y_MenuSearch_lookFed (0, 0, 447) 447 0 0 99 [(0, .ref 396), (1, .ref Ld1), (2, .int v2), (3, .int v3), (4, .int v4), (5, .int v5), (6, .int v6), (7, .int v7), (8, .int v8)] [] M L (rf ld) Q := by
  unfold J_MenuSearch_lookFed_99 at h
  obtain ⟨x12, ex12, h⟩ := ltI h
  refine g_iinc (pc1 := 102) (v := x12) (lv' := [(0, .ref 396), (1, .ref Ld1), (2, .int v2), (3, .int v3), (4, .int v4), (5, .int v5), (6, .int v6), (7, .int v7), (8, .int x12)]) d_MenuSearch_lookFed_99 rfl 8 rfl (by rw [ex12]; rfl) (by decide) [1, 2, 3, 4, 5, 6, 7, 8, 0] rfl ?_
  refine g_goto (tgt := 26) d_MenuSearch_lookFed_102 (by decide) ?_
  exact hK26 x12 M h
def J_MenuSearch_lookFed_98 (Ld1 : Nat) (K3 : Int32 → gM → Option (gM)) (K13 : Int32 → gM → Option (gM)) (K26 : Int32 → gM → Option (gM)) (v2 : Int32) (v3 : Int32) (v4 : Int32) (v5 : Int32) (v6 : Int32) (v7 : Int32) (v8 : Int32) (s1 : Int32) (s2 : Int32) (M : gM) : Option (gM) :=
  (if (s1 : Int32) < 0 ∨ 80 ≤ (s1 : Int32).toNatClampNeg then none else nmM (uM M 398 (s1 : Int32).toNatClampNeg (vp_nar .boolean s2)) (fun M16 => J_MenuSearch_lookFed_99 Ld1 K3 K13 K26 v2 v3 v4 v5 v6 v7 v8 M16))
set_option maxHeartbeats 4000000 in
set_option maxRecDepth 20000 in
theorem j_MenuSearch_lookFed_98 {l : Launch} {ld : Nat} {Q : Option Value → gM → gL → gR → Prop} (hld : isLa ld) {Ld1 : Nat} (hLd1 : isLa Ld1) {q : gM} {M : gM} {L : gL} (hQ : Q none q L (rf ld)) {K3 : Int32 → gM → Option (gM)} {K13 : Int32 → gM → Option (gM)} {K26 : Int32 → gM → Option (gM)} {v2 : Int32} {v3 : Int32} {v4 : Int32} {v5 : Int32} {v6 : Int32} {v7 : Int32} {v8 : Int32} {s1 : Int32} {s2 : Int32} (hK3 : ∀ (w6 : Int32) (M : gM), K3 w6 M = some q → Wp l y_MenuSearch_lookFed (0, 0, 447) 447 0 0 3 [(0, .ref 396), (1, .ref Ld1), (2, .int v2), (3, .int v3), (4, .int v4), (5, .int v5), (6, .int w6)] [] M L (rf ld) Q) (hK13 : ∀ (w7 : Int32) (M : gM), K13 w7 M = some q → Wp l y_MenuSearch_lookFed (0, 0, 447) 447 0 0 13 [(0, .ref 396), (1, .ref Ld1), (2, .int v2), (3, .int v3), (4, .int v4), (5, .int v5), (6, .int v6), (7, .int w7)] [] M L (rf ld) Q) (hK26 : ∀ (w8 : Int32) (M : gM), K26 w8 M = some q → Wp l y_MenuSearch_lookFed (0, 0, 447) 447 0 0 26 [(0, .ref 396), (1, .ref Ld1), (2, .int v2), (3, .int v3), (4, .int v4), (5, .int v5), (6, .int v6), (7, .int v7), (8, .int w8)] [] M L (rf ld) Q) (h : J_MenuSearch_lookFed_98 Ld1 K3 K13 K26 v2 v3 v4 v5 v6 v7 v8 s1 s2 M = some q) : Wp l y_MenuSearch_lookFed (0, 0, 447) 447 0 0 98 [(0, .ref 396), (1, .ref Ld1), (2, .int v2), (3, .int v3), (4, .int v4), (5, .int v5), (6, .int v6), (7, .int v7), (8, .int v8)] [.int s2, .int s1, .ref 398] M L (rf ld) Q := by
  unfold J_MenuSearch_lookFed_98 at h
  obtain ⟨g15, h⟩ := gdn h
  refine g_zast (pc1 := 99) d_MenuSearch_lookFed_98 rfl sh_398 (by decide) g15 ?_
  refine Wp.lM h (fun M16 h => ?_)
  exact j_MenuSearch_lookFed_99 hld hLd1 hQ hK3 hK13 hK26 h
def B_MenuSearch_lookFed_26 (Ld1 : Nat) (K3 : Int32 → gM → Option (gM)) (K13 : Int32 → gM → Option (gM)) (v2 : Int32) (v3 : Int32) (v4 : Int32) (v5 : Int32) (v6 : Int32) (v7 : Int32) (K26 : Int32 → gM → Option (gM)) : Int32 → gM → Option (gM) := fun v8 M =>
  (if v4 ≤ v8 then J_MenuSearch_lookFed_105 Ld1 K3 K13 v2 v3 v4 v5 v6 v7 M else bI2 (F_Land_freeByDish Ld1 v3 v7 (v2 + v6) (v8 - v6) M) (fun r7 M8 => bI (F_MenuSearch_indexOf v8 v6 v7) (fun r10 => (if r10 < 0 then J_MenuSearch_lookFed_99 Ld1 K3 K13 K26 v2 v3 v4 v5 v6 v7 v8 M8 else (if 80 ≤ r10 then J_MenuSearch_lookFed_99 Ld1 K3 K13 K26 v2 v3 v4 v5 v6 v7 v8 M8 else (if (r7 &&& v5) = v5 then J_MenuSearch_lookFed_98 Ld1 K3 K13 K26 v2 v3 v4 v5 v6 v7 v8 r10 1 M8 else J_MenuSearch_lookFed_98 Ld1 K3 K13 K26 v2 v3 v4 v5 v6 v7 v8 r10 0 M8))))))
def H_MenuSearch_lookFed_26 (Ld1 : Nat) (K3 : Int32 → gM → Option (gM)) (K13 : Int32 → gM → Option (gM)) (v2 : Int32) (v3 : Int32) (v4 : Int32) (v5 : Int32) (v6 : Int32) (v7 : Int32) : Nat → Int32 → gM → Option (gM) := lpK (B_MenuSearch_lookFed_26 Ld1 K3 K13 v2 v3 v4 v5 v6 v7) (fun _ _ => none)
set_option maxHeartbeats 4000000 in
set_option maxRecDepth 20000 in
theorem h_MenuSearch_lookFed_26 {l : Launch} {ld : Nat} {Q : Option Value → gM → gL → gR → Prop} (hld : isLa ld) {Ld1 : Nat} (hLd1 : isLa Ld1) {q : gM} {L : gL} (hQ : Q none q L (rf ld)) {K3 : Int32 → gM → Option (gM)} {K13 : Int32 → gM → Option (gM)} {v2 : Int32} {v3 : Int32} {v4 : Int32} {v5 : Int32} {v6 : Int32} {v7 : Int32} (hK3 : ∀ (w6 : Int32) (M : gM), K3 w6 M = some q → Wp l y_MenuSearch_lookFed (0, 0, 447) 447 0 0 3 [(0, .ref 396), (1, .ref Ld1), (2, .int v2), (3, .int v3), (4, .int v4), (5, .int v5), (6, .int w6)] [] M L (rf ld) Q) (hK13 : ∀ (w7 : Int32) (M : gM), K13 w7 M = some q → Wp l y_MenuSearch_lookFed (0, 0, 447) 447 0 0 13 [(0, .ref 396), (1, .ref Ld1), (2, .int v2), (3, .int v3), (4, .int v4), (5, .int v5), (6, .int v6), (7, .int w7)] [] M L (rf ld) Q) : ∀ (f : Nat) (v8 : Int32) (M : gM), H_MenuSearch_lookFed_26 Ld1 K3 K13 v2 v3 v4 v5 v6 v7 f v8 M = some q → Wp l y_MenuSearch_lookFed (0, 0, 447) 447 0 0 26 [(0, .ref 396), (1, .ref Ld1), (2, .int v2), (3, .int v3), (4, .int v4), (5, .int v5), (6, .int v6), (7, .int v7), (8, .int v8)] [] M L (rf ld) Q := by
  intro f
  induction f with
  | zero => intro v8 M h; cases h
  | succ f hK26 =>
    intro v8 M h
    replace h : B_MenuSearch_lookFed_26 Ld1 K3 K13 v2 v3 v4 v5 v6 v7 (H_MenuSearch_lookFed_26 Ld1 K3 K13 v2 v3 v4 v5 v6 v7 f) v8 M = some q := h
    unfold B_MenuSearch_lookFed_26 at h
    refine g_iload (pc1 := 28) d_MenuSearch_lookFed_26 rfl 8 rfl ?_
    refine g_iload (pc1 := 30) d_MenuSearch_lookFed_28 rfl 4 rfl ?_
    refine g_icmp_ge (pc1 := 33) (tgt := 105) d_MenuSearch_lookFed_30 (by decide) rfl (fun c4 => ?_) (fun c4 => ?_)
    · replace h := itp h c4
      refine Wp.loc (lv' := [(0, .ref 396), (1, .ref Ld1), (2, .int v2), (3, .int v3), (4, .int v4), (5, .int v5), (6, .int v6), (7, .int v7)]) [0, 1, 2, 3, 4, 5, 6, 7] rfl ?_
      exact j_MenuSearch_lookFed_105 hld hLd1 hQ hK3 hK13 h
    · replace h := itn h c4
      refine g_aload_n (pc1 := 34) d_MenuSearch_lookFed_33 rfl 1 rfl ?_
      refine g_iload_n (pc1 := 35) d_MenuSearch_lookFed_34 rfl 3 rfl ?_
      refine g_iload (pc1 := 37) d_MenuSearch_lookFed_35 rfl 7 rfl ?_
      refine g_iload_n (pc1 := 38) d_MenuSearch_lookFed_37 rfl 2 rfl ?_
      refine g_iload (pc1 := 40) d_MenuSearch_lookFed_38 rfl 6 rfl ?_
      refine g_iadd (pc1 := 41) d_MenuSearch_lookFed_40 rfl ?_
      refine g_iload (pc1 := 43) d_MenuSearch_lookFed_41 rfl 8 rfl ?_
      refine g_iload (pc1 := 45) d_MenuSearch_lookFed_43 rfl 6 rfl ?_
      refine g_isub (pc1 := 46) d_MenuSearch_lookFed_45 rfl ?_
      refine g_callV0 (pc1 := 49) (As := [.int v3, .int v7, .int (v2 + v6), .int (v8 - v6)]) (rest := []) d_MenuSearch_lookFed_46 rfl mo_MenuSearch_67 mi_Land_freeByDish mv_Land_freeByDish rfl (shLa_0 hLd1) (ltLa_0 hLd1) (by decide) rfl rfl (Nat.le_of_ble_eq_true rfl) ?_
      obtain ⟨r7, M8, hq6, h⟩ := bnd2 h
      refine f_Land_freeByDish hld hLd1 hq6 ?_
      dsimp only [psh]
      refine g_istore (pc1 := 51) (lv' := [(0, .ref 396), (1, .ref Ld1), (2, .int v2), (3, .int v3), (4, .int v4), (5, .int v5), (6, .int v6), (7, .int v7), (8, .int v8), (9, .int r7)]) d_MenuSearch_lookFed_49 rfl (by decide) [1, 2, 3, 4, 5, 6, 7, 8, 9, 0] rfl ?_
      refine g_iload (pc1 := 53) d_MenuSearch_lookFed_51 rfl 8 rfl ?_
      refine g_iload (pc1 := 55) d_MenuSearch_lookFed_53 rfl 6 rfl ?_
      refine g_iload (pc1 := 57) d_MenuSearch_lookFed_55 rfl 7 rfl ?_
      refine g_callS0 (pc1 := 60) (As := [.int v8, .int v6, .int v7]) (rest := []) d_MenuSearch_lookFed_57 rfl mo_MenuSearch_71 ms_MenuSearch_indexOf (by decide) rfl rfl (Nat.le_of_ble_eq_true rfl) ?_
      obtain ⟨r10, hq9, h⟩ := bnd h
      refine f_MenuSearch_indexOf hld  hq9 ?_
      dsimp only [psh]
      refine g_istore (pc1 := 62) (lv' := [(0, .ref 396), (1, .ref Ld1), (2, .int v2), (3, .int v3), (4, .int v4), (5, .int v5), (6, .int v6), (7, .int v7), (8, .int v8), (9, .int r7), (10, .int r10)]) d_MenuSearch_lookFed_60 rfl (by decide) [1, 2, 3, 4, 5, 6, 7, 8, 9, 10, 0] rfl ?_
      refine g_iload (pc1 := 64) d_MenuSearch_lookFed_62 rfl 10 rfl ?_
      refine g_if_lt (pc1 := 67) (tgt := 99) d_MenuSearch_lookFed_64 (by decide) rfl (fun c11 => ?_) (fun c11 => ?_)
      · replace h := itp h c11
        refine Wp.loc (lv' := [(0, .ref 396), (1, .ref Ld1), (2, .int v2), (3, .int v3), (4, .int v4), (5, .int v5), (6, .int v6), (7, .int v7), (8, .int v8)]) [0, 1, 2, 3, 4, 5, 6, 7, 8] rfl ?_
        exact j_MenuSearch_lookFed_99 hld hLd1 hQ hK3 hK13 hK26 h
      · replace h := itn h c11
        refine g_iload (pc1 := 69) d_MenuSearch_lookFed_67 rfl 10 rfl ?_
        refine g_aload_n (pc1 := 70) d_MenuSearch_lookFed_69 rfl 0 rfl ?_
        refine g_getr (pc1 := 73) d_MenuSearch_lookFed_70 rfl ⟨_, fo_MenuSearch_15⟩ sh_396 (by decide) (rf_396_1 ld) ?_
        refine g_alen (pc1 := 74) (v := 80) d_MenuSearch_lookFed_73 rfl sh_398 (by decide) (by decide) (by decide) (by decide) ?_
        refine g_icmp_ge (pc1 := 77) (tgt := 99) d_MenuSearch_lookFed_74 (by decide) rfl (fun c13 => ?_) (fun c13 => ?_)
        · replace h := itp h c13
          refine Wp.loc (lv' := [(0, .ref 396), (1, .ref Ld1), (2, .int v2), (3, .int v3), (4, .int v4), (5, .int v5), (6, .int v6), (7, .int v7), (8, .int v8)]) [0, 1, 2, 3, 4, 5, 6, 7, 8] rfl ?_
          exact j_MenuSearch_lookFed_99 hld hLd1 hQ hK3 hK13 hK26 h
        · replace h := itn h c13
          refine g_aload_n (pc1 := 78) d_MenuSearch_lookFed_77 rfl 0 rfl ?_
          refine g_getr (pc1 := 81) d_MenuSearch_lookFed_78 rfl ⟨_, fo_MenuSearch_15⟩ sh_396 (by decide) (rf_396_1 ld) ?_
          refine g_iload (pc1 := 83) d_MenuSearch_lookFed_81 rfl 10 rfl ?_
          refine g_iload (pc1 := 85) d_MenuSearch_lookFed_83 rfl 9 rfl ?_
          refine g_iload (pc1 := 87) d_MenuSearch_lookFed_85 rfl 5 rfl ?_
          refine g_iand (pc1 := 88) d_MenuSearch_lookFed_87 rfl ?_
          refine g_iload (pc1 := 90) d_MenuSearch_lookFed_88 rfl 5 rfl ?_
          refine g_icmp_ne (pc1 := 93) (tgt := 97) d_MenuSearch_lookFed_90 (by decide) rfl (fun c14 => ?_) (fun c14 => ?_)
          · replace h := itn h c14
            refine g_iconst (pc1 := 98) (v := 0) d_MenuSearch_lookFed_97 rfl (by decide) ?_
            refine Wp.loc (lv' := [(0, .ref 396), (1, .ref Ld1), (2, .int v2), (3, .int v3), (4, .int v4), (5, .int v5), (6, .int v6), (7, .int v7), (8, .int v8)]) [0, 1, 2, 3, 4, 5, 6, 7, 8] rfl ?_
            exact j_MenuSearch_lookFed_98 hld hLd1 hQ hK3 hK13 hK26 h
          · replace h := itp h c14
            refine g_iconst (pc1 := 94) (v := 1) d_MenuSearch_lookFed_93 rfl (by decide) ?_
            refine g_goto (tgt := 98) d_MenuSearch_lookFed_94 (by decide) ?_
            refine Wp.loc (lv' := [(0, .ref 396), (1, .ref Ld1), (2, .int v2), (3, .int v3), (4, .int v4), (5, .int v5), (6, .int v6), (7, .int v7), (8, .int v8)]) [0, 1, 2, 3, 4, 5, 6, 7, 8] rfl ?_
            exact j_MenuSearch_lookFed_98 hld hLd1 hQ hK3 hK13 hK26 h
def B_MenuSearch_lookFed_13 (Ld1 : Nat) (K3 : Int32 → gM → Option (gM)) (v2 : Int32) (v3 : Int32) (v4 : Int32) (v5 : Int32) (v6 : Int32) (K13 : Int32 → gM → Option (gM)) : Int32 → gM → Option (gM) := fun v7 M =>
  (if (M Ld1 1) ≤ v7 then J_MenuSearch_lookFed_111 Ld1 K3 v2 v3 v4 v5 v6 M else H_MenuSearch_lookFed_26 Ld1 K3 K13 v2 v3 v4 v5 v6 v7 FU v6 M)
def H_MenuSearch_lookFed_13 (Ld1 : Nat) (K3 : Int32 → gM → Option (gM)) (v2 : Int32) (v3 : Int32) (v4 : Int32) (v5 : Int32) (v6 : Int32) : Nat → Int32 → gM → Option (gM) := lpK (B_MenuSearch_lookFed_13 Ld1 K3 v2 v3 v4 v5 v6) (fun _ _ => none)
set_option maxHeartbeats 4000000 in
set_option maxRecDepth 20000 in
theorem h_MenuSearch_lookFed_13 {l : Launch} {ld : Nat} {Q : Option Value → gM → gL → gR → Prop} (hld : isLa ld) {Ld1 : Nat} (hLd1 : isLa Ld1) {q : gM} {L : gL} (hQ : Q none q L (rf ld)) {K3 : Int32 → gM → Option (gM)} {v2 : Int32} {v3 : Int32} {v4 : Int32} {v5 : Int32} {v6 : Int32} (hK3 : ∀ (w6 : Int32) (M : gM), K3 w6 M = some q → Wp l y_MenuSearch_lookFed (0, 0, 447) 447 0 0 3 [(0, .ref 396), (1, .ref Ld1), (2, .int v2), (3, .int v3), (4, .int v4), (5, .int v5), (6, .int w6)] [] M L (rf ld) Q) : ∀ (f : Nat) (v7 : Int32) (M : gM), H_MenuSearch_lookFed_13 Ld1 K3 v2 v3 v4 v5 v6 f v7 M = some q → Wp l y_MenuSearch_lookFed (0, 0, 447) 447 0 0 13 [(0, .ref 396), (1, .ref Ld1), (2, .int v2), (3, .int v3), (4, .int v4), (5, .int v5), (6, .int v6), (7, .int v7)] [] M L (rf ld) Q := by
  intro f
  induction f with
  | zero => intro v7 M h; cases h
  | succ f hK13 =>
    intro v7 M h
    replace h : B_MenuSearch_lookFed_13 Ld1 K3 v2 v3 v4 v5 v6 (H_MenuSearch_lookFed_13 Ld1 K3 v2 v3 v4 v5 v6 f) v7 M = some q := h
    unfold B_MenuSearch_lookFed_13 at h
    refine g_iload (pc1 := 15) d_MenuSearch_lookFed_13 rfl 7 rfl ?_
    refine g_aload_n (pc1 := 16) d_MenuSearch_lookFed_15 rfl 1 rfl ?_
    refine g_geti (pc1 := 19) d_MenuSearch_lookFed_16 rfl ⟨_, fo_MenuSearch_54⟩ (shLa_0 hLd1) (ltLa_0 hLd1) ?_
    refine g_icmp_ge (pc1 := 22) (tgt := 111) d_MenuSearch_lookFed_19 (by decide) rfl (fun c2 => ?_) (fun c2 => ?_)
    · replace h := itp h c2
      refine Wp.loc (lv' := [(0, .ref 396), (1, .ref Ld1), (2, .int v2), (3, .int v3), (4, .int v4), (5, .int v5), (6, .int v6)]) [0, 1, 2, 3, 4, 5, 6] rfl ?_
      exact j_MenuSearch_lookFed_111 hld hLd1 hQ hK3 h
    · replace h := itn h c2
      refine g_iload (pc1 := 24) d_MenuSearch_lookFed_22 rfl 6 rfl ?_
      refine g_istore (pc1 := 26) (lv' := [(0, .ref 396), (1, .ref Ld1), (2, .int v2), (3, .int v3), (4, .int v4), (5, .int v5), (6, .int v6), (7, .int v7), (8, .int v6)]) d_MenuSearch_lookFed_24 rfl (by decide) [1, 2, 3, 4, 5, 6, 7, 8, 0] rfl ?_
      exact h_MenuSearch_lookFed_26 hld hLd1 hQ hK3 hK13 _ v6 M h
def B_MenuSearch_lookFed_3 (Ld1 : Nat) (v2 : Int32) (v3 : Int32) (v4 : Int32) (v5 : Int32) (K3 : Int32 → gM → Option (gM)) : Int32 → gM → Option (gM) := fun v6 M =>
  (if v4 ≤ v6 then some M else H_MenuSearch_lookFed_13 Ld1 K3 v2 v3 v4 v5 v6 FU 0 M)
def H_MenuSearch_lookFed_3 (Ld1 : Nat) (v2 : Int32) (v3 : Int32) (v4 : Int32) (v5 : Int32) : Nat → Int32 → gM → Option (gM) := lpK (B_MenuSearch_lookFed_3 Ld1 v2 v3 v4 v5) (fun _ _ => none)
set_option maxHeartbeats 4000000 in
set_option maxRecDepth 20000 in
theorem h_MenuSearch_lookFed_3 {l : Launch} {ld : Nat} {Q : Option Value → gM → gL → gR → Prop} (hld : isLa ld) {Ld1 : Nat} (hLd1 : isLa Ld1) {q : gM} {L : gL} (hQ : Q none q L (rf ld))  {v2 : Int32} {v3 : Int32} {v4 : Int32} {v5 : Int32}  : ∀ (f : Nat) (v6 : Int32) (M : gM), H_MenuSearch_lookFed_3 Ld1 v2 v3 v4 v5 f v6 M = some q → Wp l y_MenuSearch_lookFed (0, 0, 447) 447 0 0 3 [(0, .ref 396), (1, .ref Ld1), (2, .int v2), (3, .int v3), (4, .int v4), (5, .int v5), (6, .int v6)] [] M L (rf ld) Q := by
  intro f
  induction f with
  | zero => intro v6 M h; cases h
  | succ f hK3 =>
    intro v6 M h
    replace h : B_MenuSearch_lookFed_3 Ld1 v2 v3 v4 v5 (H_MenuSearch_lookFed_3 Ld1 v2 v3 v4 v5 f) v6 M = some q := h
    unfold B_MenuSearch_lookFed_3 at h
    refine g_iload (pc1 := 5) d_MenuSearch_lookFed_3 rfl 6 rfl ?_
    refine g_iload (pc1 := 7) d_MenuSearch_lookFed_5 rfl 4 rfl ?_
    refine g_icmp_ge (pc1 := 10) (tgt := 117) d_MenuSearch_lookFed_7 (by decide) rfl (fun c1 => ?_) (fun c1 => ?_)
    · replace h := itp h c1
      refine g_return rfl d_MenuSearch_lookFed_117 rfl ?_
      cases h; exact hQ
    · replace h := itn h c1
      refine g_iconst (pc1 := 11) (v := 0) d_MenuSearch_lookFed_10 rfl (by decide) ?_
      refine g_istore (pc1 := 13) (lv' := [(0, .ref 396), (1, .ref Ld1), (2, .int v2), (3, .int v3), (4, .int v4), (5, .int v5), (6, .int v6), (7, .int 0)]) d_MenuSearch_lookFed_11 rfl (by decide) [1, 2, 3, 4, 5, 6, 7, 0] rfl ?_
      exact h_MenuSearch_lookFed_13 hld hLd1 hQ hK3 _ 0 M h
def F_MenuSearch_lookFed (Ld1 : Nat) (p2 : Int32) (p3 : Int32) (p4 : Int32) (p5 : Int32) (M : gM) : Option (gM) :=
  H_MenuSearch_lookFed_3 Ld1 p2 p3 p4 p5 FU 0 M
set_option maxHeartbeats 4000000 in
set_option maxRecDepth 20000 in
theorem f_MenuSearch_lookFed {l : Launch} {ld : Nat} {M : gM} {L : gL} {Q : Option Value → gM → gL → gR → Prop} (hld : isLa ld) {Ld1 : Nat} {p2 : Int32} {p3 : Int32} {p4 : Int32} {p5 : Int32} (hLd1 : isLa Ld1) {q : gM} (h : F_MenuSearch_lookFed Ld1 p2 p3 p4 p5 M = some q) (hQ : Q none q L (rf ld)) : Tm l y_MenuSearch_lookFed (0, 0, 447) 447 [.ref 396, .ref Ld1, .int p2, .int p3, .int p4, .int p5] M L (rf ld) Q := by
  refine Tm.of (by decide) (Nat.le_of_ble_eq_true rfl) ?_
  show Wp l y_MenuSearch_lookFed (0, 0, 447) 447 0 0 0 [(0, .ref 396), (1, .ref Ld1), (2, .int p2), (3, .int p3), (4, .int p4), (5, .int p5)] [] M L (rf ld) Q
  unfold F_MenuSearch_lookFed at h
  refine g_iconst (pc1 := 1) (v := 0) d_MenuSearch_lookFed_0 rfl (by decide) ?_
  refine g_istore (pc1 := 3) (lv' := [(0, .ref 396), (1, .ref Ld1), (2, .int p2), (3, .int p3), (4, .int p4), (5, .int p5), (6, .int 0)]) d_MenuSearch_lookFed_1 rfl (by decide) [1, 2, 3, 4, 5, 6, 0] rfl ?_
  exact h_MenuSearch_lookFed_3 hld hLd1 hQ  _ 0 M h

def J_MenuSearch_lookUnfed_40 (Ld1 : Nat) (X2 : Nat) (K3 : Int32 → gM → Option (gM)) (v3 : Int32) (v4 : Int32) (v5 : Int32) (s1 : Int32) (s2 : Int32) (M : gM) : Option (gM) :=
  (if (s1 : Int32) < 0 ∨ 4 ≤ (s1 : Int32).toNatClampNeg then none else nmM (uM M 397 (s1 : Int32).toNatClampNeg (vp_nar .boolean s2)) (fun M7 => nmI (v5 + 1) (fun x8 => K3 x8 M7)))
set_option maxHeartbeats 4000000 in
set_option maxRecDepth 20000 in
theorem j_MenuSearch_lookUnfed_40 {l : Launch} {ld : Nat} {Q : Option Value → gM → gL → gR → Prop} (hld : isLa ld) {Ld1 : Nat} {X2 : Nat} (hLd1 : isLa Ld1) (hX2 : isSt X2) {q : gM} {M : gM} {L : gL} (hQ : Q none q L (rf ld)) {K3 : Int32 → gM → Option (gM)} {v3 : Int32} {v4 : Int32} {v5 : Int32} {s1 : Int32} {s2 : Int32} (hK3 : ∀ (w5 : Int32) (M : gM), K3 w5 M = some q → Wp l y_MenuSearch_lookUnfed (0, 0, 447) 447 0 0 3 [(0, .ref 396), (1, .ref Ld1), (2, .ref X2), (3, .int v3), (4, .int v4), (5, .int w5)] [] M L (rf ld) Q) (h : J_MenuSearch_lookUnfed_40 Ld1 X2 K3 v3 v4 v5 s1 s2 M = some q) : Wp l y_MenuSearch_lookUnfed (0, 0, 447) 447 0 0 40 [(0, .ref 396), (1, .ref Ld1), (2, .ref X2), (3, .int v3), (4, .int v4), (5, .int v5)] [.int s2, .int s1, .ref 397] M L (rf ld) Q := by
  unfold J_MenuSearch_lookUnfed_40 at h
  obtain ⟨g6, h⟩ := gdn h
  refine g_zast (pc1 := 41) d_MenuSearch_lookUnfed_40 rfl sh_397 (by decide) g6 ?_
  refine Wp.lM h (fun M7 h => ?_)
  obtain ⟨x8, ex8, h⟩ := ltI h
  refine g_iinc (pc1 := 44) (v := x8) (lv' := [(0, .ref 396), (1, .ref Ld1), (2, .ref X2), (3, .int v3), (4, .int v4), (5, .int x8)]) d_MenuSearch_lookUnfed_41 rfl 5 rfl (by rw [ex8]; rfl) (by decide) [1, 2, 3, 4, 5, 0] rfl ?_
  refine g_goto (tgt := 3) d_MenuSearch_lookUnfed_44 (by decide) ?_
  exact hK3 x8 M7 h
def B_MenuSearch_lookUnfed_3 (Ld1 : Nat) (X2 : Nat) (v3 : Int32) (v4 : Int32) (K3 : Int32 → gM → Option (gM)) : Int32 → gM → Option (gM) := fun v5 M =>
  (if 4 ≤ v5 then some M else bI2 (F_State_freeOf X2 Ld1 v3 v5 M) (fun r3 M4 => (if (r3 &&& v4) = v4 then J_MenuSearch_lookUnfed_40 Ld1 X2 K3 v3 v4 v5 v5 1 M4 else J_MenuSearch_lookUnfed_40 Ld1 X2 K3 v3 v4 v5 v5 0 M4)))
def H_MenuSearch_lookUnfed_3 (Ld1 : Nat) (X2 : Nat) (v3 : Int32) (v4 : Int32) : Nat → Int32 → gM → Option (gM) := lpK (B_MenuSearch_lookUnfed_3 Ld1 X2 v3 v4) (fun _ _ => none)
set_option maxHeartbeats 4000000 in
set_option maxRecDepth 20000 in
theorem h_MenuSearch_lookUnfed_3 {l : Launch} {ld : Nat} {Q : Option Value → gM → gL → gR → Prop} (hld : isLa ld) {Ld1 : Nat} {X2 : Nat} (hLd1 : isLa Ld1) (hX2 : isSt X2) {q : gM} {L : gL} (hQ : Q none q L (rf ld))  {v3 : Int32} {v4 : Int32}  : ∀ (f : Nat) (v5 : Int32) (M : gM), H_MenuSearch_lookUnfed_3 Ld1 X2 v3 v4 f v5 M = some q → Wp l y_MenuSearch_lookUnfed (0, 0, 447) 447 0 0 3 [(0, .ref 396), (1, .ref Ld1), (2, .ref X2), (3, .int v3), (4, .int v4), (5, .int v5)] [] M L (rf ld) Q := by
  intro f
  induction f with
  | zero => intro v5 M h; cases h
  | succ f hK3 =>
    intro v5 M h
    replace h : B_MenuSearch_lookUnfed_3 Ld1 X2 v3 v4 (H_MenuSearch_lookUnfed_3 Ld1 X2 v3 v4 f) v5 M = some q := h
    unfold B_MenuSearch_lookUnfed_3 at h
    refine g_iload (pc1 := 5) d_MenuSearch_lookUnfed_3 rfl 5 rfl ?_
    refine g_aload_n (pc1 := 6) d_MenuSearch_lookUnfed_5 rfl 0 rfl ?_
    refine g_getr (pc1 := 9) d_MenuSearch_lookUnfed_6 rfl ⟨_, fo_MenuSearch_9⟩ sh_396 (by decide) (rf_396_0 ld) ?_
    refine g_alen (pc1 := 10) (v := 4) d_MenuSearch_lookUnfed_9 rfl sh_397 (by decide) (by decide) (by decide) (by decide) ?_
    refine g_icmp_ge (pc1 := 13) (tgt := 47) d_MenuSearch_lookUnfed_10 (by decide) rfl (fun c1 => ?_) (fun c1 => ?_)
    · replace h := itp h c1
      refine g_return rfl d_MenuSearch_lookUnfed_47 rfl ?_
      cases h; exact hQ
    · replace h := itn h c1
      refine g_aload_n (pc1 := 14) d_MenuSearch_lookUnfed_13 rfl 0 rfl ?_
      refine g_getr (pc1 := 17) d_MenuSearch_lookUnfed_14 rfl ⟨_, fo_MenuSearch_9⟩ sh_396 (by decide) (rf_396_0 ld) ?_
      refine g_iload (pc1 := 19) d_MenuSearch_lookUnfed_17 rfl 5 rfl ?_
      refine g_aload_n (pc1 := 20) d_MenuSearch_lookUnfed_19 rfl 2 rfl ?_
      refine g_aload_n (pc1 := 21) d_MenuSearch_lookUnfed_20 rfl 1 rfl ?_
      refine g_iload_n (pc1 := 22) d_MenuSearch_lookUnfed_21 rfl 3 rfl ?_
      refine g_iload (pc1 := 24) d_MenuSearch_lookUnfed_22 rfl 5 rfl ?_
      refine g_callV0 (pc1 := 27) (As := [.ref Ld1, .int v3, .int v5]) (rest := [.int v5, .ref 397]) d_MenuSearch_lookUnfed_24 rfl mo_MenuSearch_63 mi_State_freeOf mv_State_freeOf rfl (shSt_0 hX2) (ltSt_0 hX2) (by decide) rfl rfl (Nat.le_of_ble_eq_true rfl) ?_
      obtain ⟨r3, M4, hq2, h⟩ := bnd2 h
      refine f_State_freeOf hld hX2 hLd1 hq2 ?_
      dsimp only [psh]
      refine g_iload (pc1 := 29) d_MenuSearch_lookUnfed_27 rfl 4 rfl ?_
      refine g_iand (pc1 := 30) d_MenuSearch_lookUnfed_29 rfl ?_
      refine g_iload (pc1 := 32) d_MenuSearch_lookUnfed_30 rfl 4 rfl ?_
      refine g_icmp_ne (pc1 := 35) (tgt := 39) d_MenuSearch_lookUnfed_32 (by decide) rfl (fun c5 => ?_) (fun c5 => ?_)
      · replace h := itn h c5
        refine g_iconst (pc1 := 40) (v := 0) d_MenuSearch_lookUnfed_39 rfl (by decide) ?_
        exact j_MenuSearch_lookUnfed_40 hld hLd1 hX2 hQ hK3 h
      · replace h := itp h c5
        refine g_iconst (pc1 := 36) (v := 1) d_MenuSearch_lookUnfed_35 rfl (by decide) ?_
        refine g_goto (tgt := 40) d_MenuSearch_lookUnfed_36 (by decide) ?_
        exact j_MenuSearch_lookUnfed_40 hld hLd1 hX2 hQ hK3 h
def F_MenuSearch_lookUnfed (Ld1 : Nat) (X2 : Nat) (p3 : Int32) (p4 : Int32) (M : gM) : Option (gM) :=
  H_MenuSearch_lookUnfed_3 Ld1 X2 p3 p4 FU 0 M
set_option maxHeartbeats 4000000 in
set_option maxRecDepth 20000 in
theorem f_MenuSearch_lookUnfed {l : Launch} {ld : Nat} {M : gM} {L : gL} {Q : Option Value → gM → gL → gR → Prop} (hld : isLa ld) {Ld1 : Nat} {X2 : Nat} {p3 : Int32} {p4 : Int32} (hLd1 : isLa Ld1) (hX2 : isSt X2) {q : gM} (h : F_MenuSearch_lookUnfed Ld1 X2 p3 p4 M = some q) (hQ : Q none q L (rf ld)) : Tm l y_MenuSearch_lookUnfed (0, 0, 447) 447 [.ref 396, .ref Ld1, .ref X2, .int p3, .int p4] M L (rf ld) Q := by
  refine Tm.of (by decide) (Nat.le_of_ble_eq_true rfl) ?_
  show Wp l y_MenuSearch_lookUnfed (0, 0, 447) 447 0 0 0 [(0, .ref 396), (1, .ref Ld1), (2, .ref X2), (3, .int p3), (4, .int p4)] [] M L (rf ld) Q
  unfold F_MenuSearch_lookUnfed at h
  refine g_iconst (pc1 := 1) (v := 0) d_MenuSearch_lookUnfed_0 rfl (by decide) ?_
  refine g_istore (pc1 := 3) (lv' := [(0, .ref 396), (1, .ref Ld1), (2, .ref X2), (3, .int p3), (4, .int p4), (5, .int 0)]) d_MenuSearch_lookUnfed_1 rfl (by decide) [1, 2, 3, 4, 5, 0] rfl ?_
  exact h_MenuSearch_lookUnfed_3 hld hLd1 hX2 hQ  _ 0 M h

def J_PotSearch_find_86 (Ld1 : Nat) (X2 : Nat) (M : gM) : Option (Int32 × gM) :=
  (if (b01 (M 391 9)) = 0 ∨ (b01 (M 391 9)) = 1 then some ((b01 (M 391 9)), M) else none)
set_option maxHeartbeats 4000000 in
set_option maxRecDepth 20000 in
theorem j_PotSearch_find_86 {l : Launch} {ld : Nat} {Q : Option Value → gM → gL → gR → Prop} (hld : isLa ld) {Ld1 : Nat} {X2 : Nat} (hLd1 : isLa Ld1) (hX2 : isSt X2) {q : Int32 × gM} {M : gM} {L : gL} (hQ : Q (some (.int q.1)) q.2 L (rf ld))    (h : J_PotSearch_find_86 Ld1 X2 M = some q) : Wp l y_PotSearch_find (0, 0, 447) 447 0 0 86 [(0, .ref 391)] [] M L (rf ld) Q := by
  unfold J_PotSearch_find_86 at h
  refine g_goto (tgt := 109) d_PotSearch_find_86 (by decide) ?_
  refine g_aload_n (pc1 := 110) d_PotSearch_find_109 rfl 0 rfl ?_
  refine g_getz (pc1 := 113) d_PotSearch_find_110 rfl ⟨_, fo_PotSearch_28⟩ sh_391 (by decide) ?_
  obtain ⟨g24, h⟩ := gdp h
  refine g_ireturn (Or.inr ⟨rfl, nar01 g24⟩) d_PotSearch_find_113 rfl ?_
  cases h; exact hQ
def B_PotSearch_find_66 (Ld1 : Nat) (X2 : Nat) (K66 : Int32 → gM → Option (Int32 × gM)) : Int32 → gM → Option (Int32 × gM) := fun v6 M =>
  (if 924 ≤ v6 then (if (b01 (M 391 9)) = 0 ∨ (b01 (M 391 9)) = 1 then some ((b01 (M 391 9)), M) else none) else bI (F_PotSearch_weigh Ld1 M) (fun M17 => (if (M17 391 3) = 0 then J_PotSearch_find_86 Ld1 X2 M17 else bI (F_PotSearch_tryHeats Ld1 (M17 X2 0) M17) (fun M20 => bI (F_PotSearch_stepDown X2 M20) (fun M22 => nmI (v6 + 1) (fun x23 => K66 x23 M22))))))
def H_PotSearch_find_66 (Ld1 : Nat) (X2 : Nat) : Nat → Int32 → gM → Option (Int32 × gM) := lpK (B_PotSearch_find_66 Ld1 X2) (fun _ _ => none)
set_option maxHeartbeats 4000000 in
set_option maxRecDepth 20000 in
theorem h_PotSearch_find_66 {l : Launch} {ld : Nat} {Q : Option Value → gM → gL → gR → Prop} (hld : isLa ld) {Ld1 : Nat} {X2 : Nat} (hLd1 : isLa Ld1) (hX2 : isSt X2) {q : Int32 × gM} {L : gL} (hQ : Q (some (.int q.1)) q.2 L (rf ld))    : ∀ (f : Nat) (v6 : Int32) (M : gM), H_PotSearch_find_66 Ld1 X2 f v6 M = some q → Wp l y_PotSearch_find (0, 0, 447) 447 0 0 66 [(0, .ref 391), (1, .ref Ld1), (2, .ref X2), (6, .int v6)] [] M L (rf ld) Q := by
  intro f
  induction f with
  | zero => intro v6 M h; cases h
  | succ f hK66 =>
    intro v6 M h
    replace h : B_PotSearch_find_66 Ld1 X2 (H_PotSearch_find_66 Ld1 X2 f) v6 M = some q := h
    unfold B_PotSearch_find_66 at h
    refine g_iload (pc1 := 68) d_PotSearch_find_66 rfl 3 rfl ?_
    refine g_sipush (pc1 := 71) (v := 924) d_PotSearch_find_68 rfl (by decide) ?_
    refine g_icmp_ge (pc1 := 74) (tgt := 109) d_PotSearch_find_71 (by decide) rfl (fun c14 => ?_) (fun c14 => ?_)
    · replace h := itp h c14
      refine g_aload_n (pc1 := 110) d_PotSearch_find_109 rfl 0 rfl ?_
      refine g_getz (pc1 := 113) d_PotSearch_find_110 rfl ⟨_, fo_PotSearch_28⟩ sh_391 (by decide) ?_
      obtain ⟨g15, h⟩ := gdp h
      refine g_ireturn (Or.inr ⟨rfl, nar01 g15⟩) d_PotSearch_find_113 rfl ?_
      cases h; exact hQ
    · replace h := itn h c14
      refine g_aload_n (pc1 := 75) d_PotSearch_find_74 rfl 0 rfl ?_
      refine g_aload_n (pc1 := 76) d_PotSearch_find_75 rfl 1 rfl ?_
      refine g_callV0 (pc1 := 79) (As := [.ref Ld1]) (rest := []) d_PotSearch_find_76 rfl mo_PotSearch_52 mi_PotSearch_weigh mv_PotSearch_weigh rfl sh_391 (by decide) (by decide) rfl rfl (Nat.le_of_ble_eq_true rfl) ?_
      obtain ⟨M17, hq16, h⟩ := bnd h
      refine f_PotSearch_weigh hld hLd1 hq16 ?_
      dsimp only [psh]
      refine g_aload_n (pc1 := 80) d_PotSearch_find_79 rfl 0 rfl ?_
      refine g_geti (pc1 := 83) d_PotSearch_find_80 rfl ⟨_, fo_PotSearch_56⟩ sh_391 (by decide) ?_
      refine g_if_ne (pc1 := 86) (tgt := 89) d_PotSearch_find_83 (by decide) rfl (fun c18 => ?_) (fun c18 => ?_)
      · replace h := itn h c18
        refine g_aload_n (pc1 := 90) d_PotSearch_find_89 rfl 0 rfl ?_
        refine g_aload_n (pc1 := 91) d_PotSearch_find_90 rfl 1 rfl ?_
        refine g_aload_n (pc1 := 92) d_PotSearch_find_91 rfl 2 rfl ?_
        refine g_geti (pc1 := 95) d_PotSearch_find_92 rfl ⟨_, fo_PotSearch_59⟩ (shSt_0 hX2) (ltSt_0 hX2) ?_
        refine g_callV0 (pc1 := 98) (As := [.ref Ld1, .int (M17 X2 0)]) (rest := []) d_PotSearch_find_95 rfl mo_PotSearch_64 mi_PotSearch_tryHeats mv_PotSearch_tryHeats rfl sh_391 (by decide) (by decide) rfl rfl (Nat.le_of_ble_eq_true rfl) ?_
        obtain ⟨M20, hq19, h⟩ := bnd h
        refine f_PotSearch_tryHeats hld hLd1 hq19 ?_
        dsimp only [psh]
        refine g_aload_n (pc1 := 99) d_PotSearch_find_98 rfl 0 rfl ?_
        refine g_aload_n (pc1 := 100) d_PotSearch_find_99 rfl 2 rfl ?_
        refine g_callV0 (pc1 := 103) (As := [.ref X2]) (rest := []) d_PotSearch_find_100 rfl mo_PotSearch_68 mi_PotSearch_stepDown mv_PotSearch_stepDown rfl sh_391 (by decide) (by decide) rfl rfl (Nat.le_of_ble_eq_true rfl) ?_
        obtain ⟨M22, hq21, h⟩ := bnd h
        refine f_PotSearch_stepDown hld hX2 hq21 ?_
        dsimp only [psh]
        obtain ⟨x23, ex23, h⟩ := ltI h
        refine g_iinc (pc1 := 106) (v := x23) (lv' := [(0, .ref 391), (1, .ref Ld1), (2, .ref X2), (6, .int x23)]) d_PotSearch_find_103 rfl 3 rfl (by rw [ex23]; rfl) (by decide) [1, 2, 3, 0] rfl ?_
        refine g_goto (tgt := 66) d_PotSearch_find_106 (by decide) ?_
        exact hK66 x23 M22 h
      · replace h := itp h c18
        refine Wp.loc (lv' := [(0, .ref 391)]) [0] rfl ?_
        exact j_PotSearch_find_86 hld hLd1 hX2 hQ  h
def J_PotSearch_find_52 (Ld1 : Nat) (X2 : Nat) (s1 : Int32) (M : gM) : Option (Int32 × gM) :=
  nmM (uM M 391 10 s1) (fun M11 => bI (F_PotSearch_fillFrom X2 0 6 M11) (fun M13 => H_PotSearch_find_66 Ld1 X2 FU 0 M13))
set_option maxHeartbeats 4000000 in
set_option maxRecDepth 20000 in
theorem j_PotSearch_find_52 {l : Launch} {ld : Nat} {Q : Option Value → gM → gL → gR → Prop} (hld : isLa ld) {Ld1 : Nat} {X2 : Nat} (hLd1 : isLa Ld1) (hX2 : isSt X2) {q : Int32 × gM} {M : gM} {L : gL} (hQ : Q (some (.int q.1)) q.2 L (rf ld))  {s1 : Int32}  (h : J_PotSearch_find_52 Ld1 X2 s1 M = some q) : Wp l y_PotSearch_find (0, 0, 447) 447 0 0 52 [(0, .ref 391), (1, .ref Ld1), (2, .ref X2)] [.int s1, .ref 391] M L (rf ld) Q := by
  unfold J_PotSearch_find_52 at h
  refine g_puti (pc1 := 55) d_PotSearch_find_52 rfl fo_PotSearch_44 (po_10_10 _) sh_391 (by decide) ?_
  refine Wp.lM h (fun M11 h => ?_)
  refine g_aload_n (pc1 := 56) d_PotSearch_find_55 rfl 0 rfl ?_
  refine g_aload_n (pc1 := 57) d_PotSearch_find_56 rfl 2 rfl ?_
  refine g_iconst (pc1 := 58) (v := 0) d_PotSearch_find_57 rfl (by decide) ?_
  refine g_bipush (pc1 := 60) (v := 6) d_PotSearch_find_58 rfl (by decide) ?_
  refine g_callV0 (pc1 := 63) (As := [.ref X2, .int 0, .int 6]) (rest := []) d_PotSearch_find_60 rfl mo_PotSearch_48 mi_PotSearch_fillFrom mv_PotSearch_fillFrom rfl sh_391 (by decide) (by decide) rfl rfl (Nat.le_of_ble_eq_true rfl) ?_
  obtain ⟨M13, hq12, h⟩ := bnd h
  refine f_PotSearch_fillFrom hld hX2 hq12 ?_
  dsimp only [psh]
  refine g_iconst (pc1 := 64) (v := 0) d_PotSearch_find_63 rfl (by decide) ?_
  refine g_istore (pc1 := 66) (lv' := [(0, .ref 391), (1, .ref Ld1), (2, .ref X2), (6, .int 0)]) d_PotSearch_find_64 rfl (by decide) [1, 2, 3, 0] rfl ?_
  exact h_PotSearch_find_66 hld hLd1 hX2 hQ  _ 0 M13 h
def F_PotSearch_find (Ld1 : Nat) (X2 : Nat) (p3 : Int32) (p4 : Int32) (p5 : Int32) (M : gM) : Option (Int32 × gM) :=
  bI (F_Main_put 392 3 0 p3 M) (fun M2 => bI (F_Main_put 392 3 1 p4 M2) (fun M4 => bI (F_Main_put 392 3 2 p5 M4) (fun M6 => nmM (uM M6 391 9 0) (fun M7 => bI (F_Law_looksAt (Ld1 + 9) 1 M7) (fun r9 => (if r9 = 0 then J_PotSearch_find_52 Ld1 X2 1 M7 else J_PotSearch_find_52 Ld1 X2 10 M7))))))
set_option maxHeartbeats 4000000 in
set_option maxRecDepth 20000 in
theorem f_PotSearch_find {l : Launch} {ld : Nat} {M : gM} {L : gL} {Q : Option Value → gM → gL → gR → Prop} (hld : isLa ld) {Ld1 : Nat} {X2 : Nat} {p3 : Int32} {p4 : Int32} {p5 : Int32} (hLd1 : isLa Ld1) (hX2 : isSt X2) {q : Int32 × gM} (h : F_PotSearch_find Ld1 X2 p3 p4 p5 M = some q) (hQ : Q (some (.int q.1)) q.2 L (rf ld)) : Tm l y_PotSearch_find (0, 0, 447) 447 [.ref 391, .ref Ld1, .ref X2, .int p3, .int p4, .int p5] M L (rf ld) Q := by
  refine Tm.of (by decide) (Nat.le_of_ble_eq_true rfl) ?_
  show Wp l y_PotSearch_find (0, 0, 447) 447 0 0 0 [(0, .ref 391), (1, .ref Ld1), (2, .ref X2), (3, .int p3), (4, .int p4), (5, .int p5)] [] M L (rf ld) Q
  unfold F_PotSearch_find at h
  refine g_aload_n (pc1 := 1) d_PotSearch_find_0 rfl 0 rfl ?_
  refine g_getr (pc1 := 4) d_PotSearch_find_1 rfl ⟨_, fo_PotSearch_9⟩ sh_391 (by decide) (rf_391_0 ld) ?_
  refine g_iconst (pc1 := 5) (v := 0) d_PotSearch_find_4 rfl (by decide) ?_
  refine g_iload_n (pc1 := 6) d_PotSearch_find_5 rfl 3 rfl ?_
  refine g_callS0 (pc1 := 9) (As := [.ref 392, .int 0, .int p3]) (rest := []) d_PotSearch_find_6 rfl mo_PotSearch_24 ms_Main_put (by decide) rfl rfl (Nat.le_of_ble_eq_true rfl) ?_
  obtain ⟨M2, hq1, h⟩ := bnd h
  refine f_Main_put hld sh_392 (by decide) (by decide) hq1 ?_
  dsimp only [psh]
  refine g_aload_n (pc1 := 10) d_PotSearch_find_9 rfl 0 rfl ?_
  refine g_getr (pc1 := 13) d_PotSearch_find_10 rfl ⟨_, fo_PotSearch_9⟩ sh_391 (by decide) (rf_391_0 ld) ?_
  refine g_iconst (pc1 := 14) (v := 1) d_PotSearch_find_13 rfl (by decide) ?_
  refine g_iload (pc1 := 16) d_PotSearch_find_14 rfl 4 rfl ?_
  refine g_callS0 (pc1 := 19) (As := [.ref 392, .int 1, .int p4]) (rest := []) d_PotSearch_find_16 rfl mo_PotSearch_24 ms_Main_put (by decide) rfl rfl (Nat.le_of_ble_eq_true rfl) ?_
  obtain ⟨M4, hq3, h⟩ := bnd h
  refine f_Main_put hld sh_392 (by decide) (by decide) hq3 ?_
  dsimp only [psh]
  refine g_aload_n (pc1 := 20) d_PotSearch_find_19 rfl 0 rfl ?_
  refine g_getr (pc1 := 23) d_PotSearch_find_20 rfl ⟨_, fo_PotSearch_9⟩ sh_391 (by decide) (rf_391_0 ld) ?_
  refine g_iconst (pc1 := 24) (v := 2) d_PotSearch_find_23 rfl (by decide) ?_
  refine g_iload (pc1 := 26) d_PotSearch_find_24 rfl 5 rfl ?_
  refine g_callS0 (pc1 := 29) (As := [.ref 392, .int 2, .int p5]) (rest := []) d_PotSearch_find_26 rfl mo_PotSearch_24 ms_Main_put (by decide) rfl rfl (Nat.le_of_ble_eq_true rfl) ?_
  obtain ⟨M6, hq5, h⟩ := bnd h
  refine f_Main_put hld sh_392 (by decide) (by decide) hq5 ?_
  dsimp only [psh]
  refine g_aload_n (pc1 := 30) d_PotSearch_find_29 rfl 0 rfl ?_
  refine g_iconst (pc1 := 31) (v := 0) d_PotSearch_find_30 rfl (by decide) ?_
  refine g_putz (pc1 := 34) d_PotSearch_find_31 rfl fo_PotSearch_28 po_10_9_0 rfl sh_391 (by decide) ?_
  refine Wp.lM h (fun M7 h => ?_)
  refine g_aload_n (pc1 := 35) d_PotSearch_find_34 rfl 0 rfl ?_
  refine g_aload_n (pc1 := 36) d_PotSearch_find_35 rfl 1 rfl ?_
  refine g_getr (pc1 := 39) d_PotSearch_find_36 rfl ⟨_, fo_PotSearch_32⟩ (shLa_0 hLd1) (ltLa_0 hLd1) (rfLa_13 ld hLd1) ?_
  refine g_iconst (pc1 := 40) (v := 1) d_PotSearch_find_39 rfl (by decide) ?_
  refine g_callV0 (pc1 := 43) (As := [.int 1]) (rest := [.ref 391]) d_PotSearch_find_40 rfl mo_PotSearch_38 mi_Law_looksAt mv_Law_looksAt rfl (shLw_0 (isLw_9 hLd1)) (ltLw_0 (isLw_9 hLd1)) (by decide) rfl rfl (Nat.le_of_ble_eq_true rfl) ?_
  obtain ⟨r9, hq8, h⟩ := bnd h
  refine f_Law_looksAt hld (isLw_9 hLd1) hq8 ?_
  dsimp only [psh]
  refine g_if_eq (pc1 := 46) (tgt := 51) d_PotSearch_find_43 (by decide) rfl (fun c10 => ?_) (fun c10 => ?_)
  · replace h := itp h c10
    refine g_iconst (pc1 := 52) (v := 1) d_PotSearch_find_51 rfl (by decide) ?_
    refine Wp.loc (lv' := [(0, .ref 391), (1, .ref Ld1), (2, .ref X2)]) [0, 1, 2] rfl ?_
    exact j_PotSearch_find_52 hld hLd1 hX2 hQ  h
  · replace h := itn h c10
    refine g_bipush (pc1 := 48) (v := 10) d_PotSearch_find_46 rfl (by decide) ?_
    refine g_goto (tgt := 52) d_PotSearch_find_48 (by decide) ?_
    refine Wp.loc (lv' := [(0, .ref 391), (1, .ref Ld1), (2, .ref X2)]) [0, 1, 2] rfl ?_
    exact j_PotSearch_find_52 hld hLd1 hX2 hQ  h

def J_Reader_parse_215 (Ld2 : Nat) (M : gM) (L : gL) : Option (Int32 × gM × gL) :=
  (if (M 3 2) = 0 then nmM (uM M 3 2 (M 3 4)) (fun M12 => nmM (uM M12 3 3 (M12 3 5)) (fun M13 => some ((M13 3 2), M13, L))) else some ((M 3 2), M, L))
set_option maxHeartbeats 4000000 in
set_option maxRecDepth 20000 in
theorem j_Reader_parse_215 {l : Launch} {ld : Nat} {Q : Option Value → gM → gL → gR → Prop} (hld : isLa ld) {Ld2 : Nat} (hLd2 : isLa Ld2) {q : Int32 × gM × gL} {M : gM} {L : gL} (hQ : Q (some (.int q.1)) q.2.1 q.2.2 (rf ld))    (h : J_Reader_parse_215 Ld2 M L = some q) : Wp l y_Reader_parse (0, 0, 447) 447 0 0 215 [(0, .ref 3)] [] M L (rf ld) Q := by
  unfold J_Reader_parse_215 at h
  refine g_aload_n (pc1 := 216) d_Reader_parse_215 rfl 0 rfl ?_
  refine g_geti (pc1 := 219) d_Reader_parse_216 rfl ⟨_, fo_Reader_42⟩ sh_3 (by decide) ?_
  refine g_if_ne (pc1 := 222) (tgt := 238) d_Reader_parse_219 (by decide) rfl (fun c11 => ?_) (fun c11 => ?_)
  · replace h := itn h c11
    refine g_aload_n (pc1 := 239) d_Reader_parse_238 rfl 0 rfl ?_
    refine g_geti (pc1 := 242) d_Reader_parse_239 rfl ⟨_, fo_Reader_42⟩ sh_3 (by decide) ?_
    refine g_ireturn (Or.inl rfl) d_Reader_parse_242 rfl ?_
    cases h; exact hQ
  · replace h := itp h c11
    refine g_aload_n (pc1 := 223) d_Reader_parse_222 rfl 0 rfl ?_
    refine g_aload_n (pc1 := 224) d_Reader_parse_223 rfl 0 rfl ?_
    refine g_geti (pc1 := 227) d_Reader_parse_224 rfl ⟨_, fo_Reader_45⟩ sh_3 (by decide) ?_
    refine g_puti (pc1 := 230) d_Reader_parse_227 rfl fo_Reader_42 (po_2_2 _) sh_3 (by decide) ?_
    refine Wp.lM h (fun M12 h => ?_)
    refine g_aload_n (pc1 := 231) d_Reader_parse_230 rfl 0 rfl ?_
    refine g_aload_n (pc1 := 232) d_Reader_parse_231 rfl 0 rfl ?_
    refine g_geti (pc1 := 235) d_Reader_parse_232 rfl ⟨_, fo_Reader_99⟩ sh_3 (by decide) ?_
    refine g_puti (pc1 := 238) d_Reader_parse_235 rfl fo_Reader_102 (po_2_3 _) sh_3 (by decide) ?_
    refine Wp.lM h (fun M13 h => ?_)
    refine g_aload_n (pc1 := 239) d_Reader_parse_238 rfl 0 rfl ?_
    refine g_geti (pc1 := 242) d_Reader_parse_239 rfl ⟨_, fo_Reader_42⟩ sh_3 (by decide) ?_
    refine g_ireturn (Or.inl rfl) d_Reader_parse_242 rfl ?_
    cases h; exact hQ
def J_Reader_parse_209 (Ld2 : Nat) (K34 : Int32 → gM → gL → Option (Int32 × gM × gL)) (v3 : Int32) (M : gM) (L : gL) : Option (Int32 × gM × gL) :=
  nmI (v3 + 1) (fun x24 => K34 x24 M L)
set_option maxHeartbeats 4000000 in
set_option maxRecDepth 20000 in
theorem j_Reader_parse_209 {l : Launch} {ld : Nat} {Q : Option Value → gM → gL → gR → Prop} (hld : isLa ld) {Ld2 : Nat} (hLd2 : isLa Ld2) {q : Int32 × gM × gL} {M : gM} {L : gL} (hQ : Q (some (.int q.1)) q.2.1 q.2.2 (rf ld)) {K34 : Int32 → gM → gL → Option (Int32 × gM × gL)} {v3 : Int32} (hK34 : ∀ (w3 : Int32) (M : gM) (L : gL), K34 w3 M L = some q → Wp l y_Reader_parse (0, 0, 447) 447 0 0 34 [(0, .ref 3), (2, .ref Ld2), (3, .int w3)] [] M L (rf ld) Q) (h : J_Reader_parse_209 Ld2 K34 v3 M L = some q) : Wp l y_Reader_parse (0, 0, 447) 447 0 0 209 [(0, .ref 3), (2, .ref Ld2), (3, .int v3)] [] M L (rf ld) Q := by
  unfold J_Reader_parse_209 at h
  obtain ⟨x24, ex24, h⟩ := ltI h
  refine g_iinc (pc1 := 212) (v := x24) (lv' := [(0, .ref 3), (2, .ref Ld2), (3, .int x24)]) d_Reader_parse_209 rfl 2 rfl (by rw [ex24]; rfl) (by decide) [1, 2, 0] rfl ?_
  refine g_goto (tgt := 34) d_Reader_parse_212 (by decide) ?_
  exact hK34 x24 M L h
def B_Reader_parse_34 (Ld2 : Nat) (K34 : Int32 → gM → gL → Option (Int32 × gM × gL)) : Int32 → gM → gL → Option (Int32 × gM × gL) := fun v3 M L =>
  (if 400 < v3 then J_Reader_parse_215 Ld2 M L else (if (M 3 2) = 0 then bI (F_Reader_is 0 M) (fun r16 => (if r16 = 0 then bI (F_Main_at 6 401 (M 3 1) M) (fun r19 => (if r19 = 128 then bI2 (F_Reader_takeFood Ld2 M L) (fun M22 L23 => J_Reader_parse_209 Ld2 K34 v3 M22 L23) else (if r19 = 129 then bI2 (F_Reader_takeDish Ld2 M L) (fun M27 L28 => J_Reader_parse_209 Ld2 K34 v3 M27 L28) else (if r19 = 130 then bI2 (F_Reader_takeGuest Ld2 M L) (fun M31 L32 => J_Reader_parse_209 Ld2 K34 v3 M31 L32) else (if r19 = 131 then bI2 (F_Reader_takeDeed Ld2 M L) (fun M35 L36 => J_Reader_parse_209 Ld2 K34 v3 M35 L36) else (if r19 = 132 then bI (F_Reader_takeLaw (Ld2 + 9) M L) (fun M39 => J_Reader_parse_209 Ld2 K34 v3 M39 L) else (if r19 = 133 then bI (F_Reader_takeLaw (Ld2 + 13) M L) (fun M42 => J_Reader_parse_209 Ld2 K34 v3 M42 L) else (if r19 = 134 then bI (F_Reader_takeLaw (Ld2 + 17) M L) (fun M45 => J_Reader_parse_209 Ld2 K34 v3 M45 L) else (if r19 = 135 then bI (F_Reader_takeLaw (Ld2 + 21) M L) (fun M48 => J_Reader_parse_209 Ld2 K34 v3 M48 L) else (if r19 = 136 then bI (F_Reader_takeSeed Ld2 M L) (fun M51 => J_Reader_parse_209 Ld2 K34 v3 M51 L) else bI (F_Reader_stop 1 M) (fun M53 => J_Reader_parse_209 Ld2 K34 v3 M53 L))))))))))) else J_Reader_parse_215 Ld2 M L)) else J_Reader_parse_215 Ld2 M L))
def H_Reader_parse_34 (Ld2 : Nat) : Nat → Int32 → gM → gL → Option (Int32 × gM × gL) := lpK (B_Reader_parse_34 Ld2) (fun _ _ _ => none)
set_option maxHeartbeats 4000000 in
set_option maxRecDepth 20000 in
theorem h_Reader_parse_34 {l : Launch} {ld : Nat} {Q : Option Value → gM → gL → gR → Prop} (hld : isLa ld) {Ld2 : Nat} (hLd2 : isLa Ld2) {q : Int32 × gM × gL} (hQ : Q (some (.int q.1)) q.2.1 q.2.2 (rf ld))    : ∀ (f : Nat) (v3 : Int32) (M : gM) (L : gL), H_Reader_parse_34 Ld2 f v3 M L = some q → Wp l y_Reader_parse (0, 0, 447) 447 0 0 34 [(0, .ref 3), (2, .ref Ld2), (3, .int v3)] [] M L (rf ld) Q := by
  intro f
  induction f with
  | zero => intro v3 M L h; cases h
  | succ f hK34 =>
    intro v3 M L h
    replace h : B_Reader_parse_34 Ld2 (H_Reader_parse_34 Ld2 f) v3 M L = some q := h
    unfold B_Reader_parse_34 at h
    refine g_iload_n (pc1 := 35) d_Reader_parse_34 rfl 2 rfl ?_
    refine g_sipush (pc1 := 38) (v := 400) d_Reader_parse_35 rfl (by decide) ?_
    refine g_icmp_gt (pc1 := 41) (tgt := 215) d_Reader_parse_38 (by decide) rfl (fun c10 => ?_) (fun c10 => ?_)
    · replace h := itp h c10
      refine Wp.loc (lv' := [(0, .ref 3)]) [0] rfl ?_
      exact j_Reader_parse_215 hld hLd2 hQ  h
    · replace h := itn h c10
      refine g_aload_n (pc1 := 42) d_Reader_parse_41 rfl 0 rfl ?_
      refine g_geti (pc1 := 45) d_Reader_parse_42 rfl ⟨_, fo_Reader_42⟩ sh_3 (by decide) ?_
      refine g_if_ne (pc1 := 48) (tgt := 215) d_Reader_parse_45 (by decide) rfl (fun c14 => ?_) (fun c14 => ?_)
      · replace h := itn h c14
        refine Wp.loc (lv' := [(0, .ref 3)]) [0] rfl ?_
        exact j_Reader_parse_215 hld hLd2 hQ  h
      · replace h := itp h c14
        refine g_aload_n (pc1 := 49) d_Reader_parse_48 rfl 0 rfl ?_
        refine g_iconst (pc1 := 50) (v := 0) d_Reader_parse_49 rfl (by decide) ?_
        refine g_callV0 (pc1 := 53) (As := [.int 0]) (rest := []) d_Reader_parse_50 rfl mo_Reader_51 mi_Reader_is mv_Reader_is rfl sh_3 (by decide) (by decide) rfl rfl (Nat.le_of_ble_eq_true rfl) ?_
        obtain ⟨r16, hq15, h⟩ := bnd h
        refine f_Reader_is hld  hq15 ?_
        dsimp only [psh]
        refine g_if_ne (pc1 := 56) (tgt := 215) d_Reader_parse_53 (by decide) rfl (fun c17 => ?_) (fun c17 => ?_)
        · replace h := itn h c17
          refine Wp.loc (lv' := [(0, .ref 3)]) [0] rfl ?_
          exact j_Reader_parse_215 hld hLd2 hQ  h
        · replace h := itp h c17
          refine g_aload_n (pc1 := 57) d_Reader_parse_56 rfl 0 rfl ?_
          refine g_getr (pc1 := 60) d_Reader_parse_57 rfl ⟨_, fo_Reader_12⟩ sh_3 (by decide) (rf_3_0 ld) ?_
          refine g_getr (pc1 := 63) d_Reader_parse_60 rfl ⟨_, fo_Reader_55⟩ sh_4 (by decide) (rf_4_1 ld) ?_
          refine g_aload_n (pc1 := 64) d_Reader_parse_63 rfl 0 rfl ?_
          refine g_geti (pc1 := 67) d_Reader_parse_64 rfl ⟨_, fo_Reader_38⟩ sh_3 (by decide) ?_
          refine g_callS0 (pc1 := 70) (As := [.ref 6, .int (M 3 1)]) (rest := []) d_Reader_parse_67 rfl mo_Reader_58 ms_Main_at (by decide) rfl rfl (Nat.le_of_ble_eq_true rfl) ?_
          obtain ⟨r19, hq18, h⟩ := bnd h
          refine f_Main_at hld sh_6 (by decide) (by decide) hq18 ?_
          dsimp only [psh]
          by_cases c20 : r19 = 128
          · replace h := itp h c20
            refine g_tabK (tgt := 120) (off := 50) d_Reader_parse_70 c20 (by decide) (by decide) (by decide) (by decide) ?_
            refine g_aload_n (pc1 := 121) d_Reader_parse_120 rfl 0 rfl ?_
            refine g_aload_n (pc1 := 122) d_Reader_parse_121 rfl 1 rfl ?_
            refine g_callV0 (pc1 := 125) (As := [.ref Ld2]) (rest := []) d_Reader_parse_122 rfl mo_Reader_62 mi_Reader_takeFood mv_Reader_takeFood rfl sh_3 (by decide) (by decide) rfl rfl (Nat.le_of_ble_eq_true rfl) ?_
            obtain ⟨M22, L23, hq21, h⟩ := bnd2 h
            refine f_Reader_takeFood hld hLd2 hq21 ?_
            dsimp only [psh]
            refine g_goto (tgt := 209) d_Reader_parse_125 (by decide) ?_
            exact j_Reader_parse_209 hld hLd2 hQ hK34 h
          replace h := itn h c20
          by_cases c25 : r19 = 129
          · replace h := itp h c25
            refine g_tabK (tgt := 128) (off := 58) d_Reader_parse_70 c25 (by decide) (by decide) (by decide) (by decide) ?_
            refine g_aload_n (pc1 := 129) d_Reader_parse_128 rfl 0 rfl ?_
            refine g_aload_n (pc1 := 130) d_Reader_parse_129 rfl 1 rfl ?_
            refine g_callV0 (pc1 := 133) (As := [.ref Ld2]) (rest := []) d_Reader_parse_130 rfl mo_Reader_66 mi_Reader_takeDish mv_Reader_takeDish rfl sh_3 (by decide) (by decide) rfl rfl (Nat.le_of_ble_eq_true rfl) ?_
            obtain ⟨M27, L28, hq26, h⟩ := bnd2 h
            refine f_Reader_takeDish hld hLd2 hq26 ?_
            dsimp only [psh]
            refine g_goto (tgt := 209) d_Reader_parse_133 (by decide) ?_
            exact j_Reader_parse_209 hld hLd2 hQ hK34 h
          replace h := itn h c25
          by_cases c29 : r19 = 130
          · replace h := itp h c29
            refine g_tabK (tgt := 136) (off := 66) d_Reader_parse_70 c29 (by decide) (by decide) (by decide) (by decide) ?_
            refine g_aload_n (pc1 := 137) d_Reader_parse_136 rfl 0 rfl ?_
            refine g_aload_n (pc1 := 138) d_Reader_parse_137 rfl 1 rfl ?_
            refine g_callV0 (pc1 := 141) (As := [.ref Ld2]) (rest := []) d_Reader_parse_138 rfl mo_Reader_69 mi_Reader_takeGuest mv_Reader_takeGuest rfl sh_3 (by decide) (by decide) rfl rfl (Nat.le_of_ble_eq_true rfl) ?_
            obtain ⟨M31, L32, hq30, h⟩ := bnd2 h
            refine f_Reader_takeGuest hld hLd2 hq30 ?_
            dsimp only [psh]
            refine g_goto (tgt := 209) d_Reader_parse_141 (by decide) ?_
            exact j_Reader_parse_209 hld hLd2 hQ hK34 h
          replace h := itn h c29
          by_cases c33 : r19 = 131
          · replace h := itp h c33
            refine g_tabK (tgt := 144) (off := 74) d_Reader_parse_70 c33 (by decide) (by decide) (by decide) (by decide) ?_
            refine g_aload_n (pc1 := 145) d_Reader_parse_144 rfl 0 rfl ?_
            refine g_aload_n (pc1 := 146) d_Reader_parse_145 rfl 1 rfl ?_
            refine g_callV0 (pc1 := 149) (As := [.ref Ld2]) (rest := []) d_Reader_parse_146 rfl mo_Reader_72 mi_Reader_takeDeed mv_Reader_takeDeed rfl sh_3 (by decide) (by decide) rfl rfl (Nat.le_of_ble_eq_true rfl) ?_
            obtain ⟨M35, L36, hq34, h⟩ := bnd2 h
            refine f_Reader_takeDeed hld hLd2 hq34 ?_
            dsimp only [psh]
            refine g_goto (tgt := 209) d_Reader_parse_149 (by decide) ?_
            exact j_Reader_parse_209 hld hLd2 hQ hK34 h
          replace h := itn h c33
          by_cases c37 : r19 = 132
          · replace h := itp h c37
            refine g_tabK (tgt := 152) (off := 82) d_Reader_parse_70 c37 (by decide) (by decide) (by decide) (by decide) ?_
            refine g_aload_n (pc1 := 153) d_Reader_parse_152 rfl 0 rfl ?_
            refine g_aload_n (pc1 := 154) d_Reader_parse_153 rfl 1 rfl ?_
            refine g_getr (pc1 := 157) d_Reader_parse_154 rfl ⟨_, fo_Reader_75⟩ (shLa_0 hLd2) (ltLa_0 hLd2) (rfLa_13 ld hLd2) ?_
            refine g_callV0 (pc1 := 160) (As := [.ref (Ld2 + 9)]) (rest := []) d_Reader_parse_157 rfl mo_Reader_79 mi_Reader_takeLaw mv_Reader_takeLaw rfl sh_3 (by decide) (by decide) rfl rfl (Nat.le_of_ble_eq_true rfl) ?_
            obtain ⟨M39, hq38, h⟩ := bnd h
            refine f_Reader_takeLaw hld (isLw_9 hLd2) hq38 ?_
            dsimp only [psh]
            refine g_goto (tgt := 209) d_Reader_parse_160 (by decide) ?_
            exact j_Reader_parse_209 hld hLd2 hQ hK34 h
          replace h := itn h c37
          by_cases c40 : r19 = 133
          · replace h := itp h c40
            refine g_tabK (tgt := 163) (off := 93) d_Reader_parse_70 c40 (by decide) (by decide) (by decide) (by decide) ?_
            refine g_aload_n (pc1 := 164) d_Reader_parse_163 rfl 0 rfl ?_
            refine g_aload_n (pc1 := 165) d_Reader_parse_164 rfl 1 rfl ?_
            refine g_getr (pc1 := 168) d_Reader_parse_165 rfl ⟨_, fo_Reader_83⟩ (shLa_0 hLd2) (ltLa_0 hLd2) (rfLa_14 ld hLd2) ?_
            refine g_callV0 (pc1 := 171) (As := [.ref (Ld2 + 13)]) (rest := []) d_Reader_parse_168 rfl mo_Reader_79 mi_Reader_takeLaw mv_Reader_takeLaw rfl sh_3 (by decide) (by decide) rfl rfl (Nat.le_of_ble_eq_true rfl) ?_
            obtain ⟨M42, hq41, h⟩ := bnd h
            refine f_Reader_takeLaw hld (isLw_13 hLd2) hq41 ?_
            dsimp only [psh]
            refine g_goto (tgt := 209) d_Reader_parse_171 (by decide) ?_
            exact j_Reader_parse_209 hld hLd2 hQ hK34 h
          replace h := itn h c40
          by_cases c43 : r19 = 134
          · replace h := itp h c43
            refine g_tabK (tgt := 174) (off := 104) d_Reader_parse_70 c43 (by decide) (by decide) (by decide) (by decide) ?_
            refine g_aload_n (pc1 := 175) d_Reader_parse_174 rfl 0 rfl ?_
            refine g_aload_n (pc1 := 176) d_Reader_parse_175 rfl 1 rfl ?_
            refine g_getr (pc1 := 179) d_Reader_parse_176 rfl ⟨_, fo_Reader_86⟩ (shLa_0 hLd2) (ltLa_0 hLd2) (rfLa_15 ld hLd2) ?_
            refine g_callV0 (pc1 := 182) (As := [.ref (Ld2 + 17)]) (rest := []) d_Reader_parse_179 rfl mo_Reader_79 mi_Reader_takeLaw mv_Reader_takeLaw rfl sh_3 (by decide) (by decide) rfl rfl (Nat.le_of_ble_eq_true rfl) ?_
            obtain ⟨M45, hq44, h⟩ := bnd h
            refine f_Reader_takeLaw hld (isLw_17 hLd2) hq44 ?_
            dsimp only [psh]
            refine g_goto (tgt := 209) d_Reader_parse_182 (by decide) ?_
            exact j_Reader_parse_209 hld hLd2 hQ hK34 h
          replace h := itn h c43
          by_cases c46 : r19 = 135
          · replace h := itp h c46
            refine g_tabK (tgt := 185) (off := 115) d_Reader_parse_70 c46 (by decide) (by decide) (by decide) (by decide) ?_
            refine g_aload_n (pc1 := 186) d_Reader_parse_185 rfl 0 rfl ?_
            refine g_aload_n (pc1 := 187) d_Reader_parse_186 rfl 1 rfl ?_
            refine g_getr (pc1 := 190) d_Reader_parse_187 rfl ⟨_, fo_Reader_89⟩ (shLa_0 hLd2) (ltLa_0 hLd2) (rfLa_16 ld hLd2) ?_
            refine g_callV0 (pc1 := 193) (As := [.ref (Ld2 + 21)]) (rest := []) d_Reader_parse_190 rfl mo_Reader_79 mi_Reader_takeLaw mv_Reader_takeLaw rfl sh_3 (by decide) (by decide) rfl rfl (Nat.le_of_ble_eq_true rfl) ?_
            obtain ⟨M48, hq47, h⟩ := bnd h
            refine f_Reader_takeLaw hld (isLw_21 hLd2) hq47 ?_
            dsimp only [psh]
            refine g_goto (tgt := 209) d_Reader_parse_193 (by decide) ?_
            exact j_Reader_parse_209 hld hLd2 hQ hK34 h
          replace h := itn h c46
          by_cases c49 : r19 = 136
          · replace h := itp h c49
            refine g_tabK (tgt := 196) (off := 126) d_Reader_parse_70 c49 (by decide) (by decide) (by decide) (by decide) ?_
            refine g_aload_n (pc1 := 197) d_Reader_parse_196 rfl 0 rfl ?_
            refine g_aload_n (pc1 := 198) d_Reader_parse_197 rfl 1 rfl ?_
            refine g_callV0 (pc1 := 201) (As := [.ref Ld2]) (rest := []) d_Reader_parse_198 rfl mo_Reader_92 mi_Reader_takeSeed mv_Reader_takeSeed rfl sh_3 (by decide) (by decide) rfl rfl (Nat.le_of_ble_eq_true rfl) ?_
            obtain ⟨M51, hq50, h⟩ := bnd h
            refine f_Reader_takeSeed hld hLd2 hq50 ?_
            dsimp only [psh]
            refine g_goto (tgt := 209) d_Reader_parse_201 (by decide) ?_
            exact j_Reader_parse_209 hld hLd2 hQ hK34 h
          replace h := itn h c49
          refine g_tabOut (tgt := 204) d_Reader_parse_70 (by
            have nc20 := neT (a := 128) c20 (by decide)
            have nc25 := neT (a := 129) c25 (by decide)
            have nc29 := neT (a := 130) c29 (by decide)
            have nc33 := neT (a := 131) c33 (by decide)
            have nc37 := neT (a := 132) c37 (by decide)
            have nc40 := neT (a := 133) c40 (by decide)
            have nc43 := neT (a := 134) c43 (by decide)
            have nc46 := neT (a := 135) c46 (by decide)
            have nc49 := neT (a := 136) c49 (by decide)
            omega) (by decide) ?_
          refine g_aload_n (pc1 := 205) d_Reader_parse_204 rfl 0 rfl ?_
          refine g_iconst (pc1 := 206) (v := 1) d_Reader_parse_205 rfl (by decide) ?_
          refine g_callV0 (pc1 := 209) (As := [.int 1]) (rest := []) d_Reader_parse_206 rfl mo_Reader_95 mi_Reader_stop mv_Reader_stop rfl sh_3 (by decide) (by decide) rfl rfl (Nat.le_of_ble_eq_true rfl) ?_
          obtain ⟨M53, hq52, h⟩ := bnd h
          refine f_Reader_stop hld  hq52 ?_
          dsimp only [psh]
          exact j_Reader_parse_209 hld hLd2 hQ hK34 h
def F_Reader_parse (Ld2 : Nat) (M : gM) (L : gL) : Option (Int32 × gM × gL) :=
  bI2 (F_Tokens_cut M L) (fun M2 L3 => bI (F_Land_clear Ld2 M2) (fun M5 => nmM (uM M5 3 1 0) (fun M6 => nmM (uM M6 3 2 0) (fun M7 => nmM (uM M7 3 4 0) (fun M8 => nmM (uM M8 3 8 0) (fun M9 => H_Reader_parse_34 Ld2 FU 0 M9 L3))))))
set_option maxHeartbeats 4000000 in
set_option maxRecDepth 20000 in
theorem f_Reader_parse {l : Launch} {ld : Nat} {M : gM} {L : gL} {Q : Option Value → gM → gL → gR → Prop} (hld : isLa ld) {Ld2 : Nat} (hLd2 : isLa Ld2) {q : Int32 × gM × gL} (h : F_Reader_parse Ld2 M L = some q) (hQ : Q (some (.int q.1)) q.2.1 q.2.2 (rf ld)) : Tm l y_Reader_parse (0, 0, 447) 447 [.ref 3, .ref 1, .ref Ld2] M L (rf ld) Q := by
  refine Tm.of (by decide) (Nat.le_of_ble_eq_true rfl) ?_
  show Wp l y_Reader_parse (0, 0, 447) 447 0 0 0 [(0, .ref 3), (1, .ref 1), (2, .ref Ld2)] [] M L (rf ld) Q
  unfold F_Reader_parse at h
  refine g_aload_n (pc1 := 1) d_Reader_parse_0 rfl 0 rfl ?_
  refine g_getr (pc1 := 4) d_Reader_parse_1 rfl ⟨_, fo_Reader_12⟩ sh_3 (by decide) (rf_3_0 ld) ?_
  refine g_aload_n (pc1 := 5) d_Reader_parse_4 rfl 1 rfl ?_
  refine g_callV0 (pc1 := 8) (As := [.ref 1]) (rest := []) d_Reader_parse_5 rfl mo_Reader_29 mi_Tokens_cut mv_Tokens_cut rfl sh_4 (by decide) (by decide) rfl rfl (Nat.le_of_ble_eq_true rfl) ?_
  obtain ⟨M2, L3, hq1, h⟩ := bnd2 h
  refine f_Tokens_cut hld  hq1 ?_
  dsimp only [psh]
  refine g_aload_n (pc1 := 9) d_Reader_parse_8 rfl 2 rfl ?_
  refine g_callV0 (pc1 := 12) (As := []) (rest := []) d_Reader_parse_9 rfl mo_Reader_33 mi_Land_clear mv_Land_clear rfl (shLa_0 hLd2) (ltLa_0 hLd2) (by decide) rfl rfl (Nat.le_of_ble_eq_true rfl) ?_
  obtain ⟨M5, hq4, h⟩ := bnd h
  refine f_Land_clear hld hLd2 hq4 ?_
  dsimp only [psh]
  refine g_aload_n (pc1 := 13) d_Reader_parse_12 rfl 0 rfl ?_
  refine g_iconst (pc1 := 14) (v := 0) d_Reader_parse_13 rfl (by decide) ?_
  refine g_puti (pc1 := 17) d_Reader_parse_14 rfl fo_Reader_38 (po_2_1 _) sh_3 (by decide) ?_
  refine Wp.lM h (fun M6 h => ?_)
  refine g_aload_n (pc1 := 18) d_Reader_parse_17 rfl 0 rfl ?_
  refine g_iconst (pc1 := 19) (v := 0) d_Reader_parse_18 rfl (by decide) ?_
  refine g_puti (pc1 := 22) d_Reader_parse_19 rfl fo_Reader_42 (po_2_2 _) sh_3 (by decide) ?_
  refine Wp.lM h (fun M7 h => ?_)
  refine g_aload_n (pc1 := 23) d_Reader_parse_22 rfl 0 rfl ?_
  refine g_iconst (pc1 := 24) (v := 0) d_Reader_parse_23 rfl (by decide) ?_
  refine g_puti (pc1 := 27) d_Reader_parse_24 rfl fo_Reader_45 (po_2_4 _) sh_3 (by decide) ?_
  refine Wp.lM h (fun M8 h => ?_)
  refine g_aload_n (pc1 := 28) d_Reader_parse_27 rfl 0 rfl ?_
  refine g_iconst (pc1 := 29) (v := 0) d_Reader_parse_28 rfl (by decide) ?_
  refine g_puti (pc1 := 32) d_Reader_parse_29 rfl fo_Reader_48 (po_2_8 _) sh_3 (by decide) ?_
  refine Wp.lM h (fun M9 h => ?_)
  refine g_iconst (pc1 := 33) (v := 0) d_Reader_parse_32 rfl (by decide) ?_
  refine g_istore_n (pc1 := 34) (lv' := [(0, .ref 3), (1, .ref 1), (2, .ref Ld2), (3, .int 0)]) d_Reader_parse_33 rfl rfl (by decide) [1, 2, 3, 0] rfl ?_
  refine Wp.loc (lv' := [(0, .ref 3), (2, .ref Ld2), (3, .int 0)]) [0, 2, 3] rfl ?_
  exact h_Reader_parse_34 hld hLd2 hQ  _ 0 M9 L3 h

def J_State_cookOne_107 (X0 : Nat) (Ld1 : Nat) (v2 : Int32) (v3 : Int32) (M : gM) : Option (Int32 × gM) :=
  bI (F_Land_priceOf Ld1 v2 M) (fun r7 => nmM (uM M X0 1 ((M X0 1) + r7)) (fun M8 => nmM (uM M8 X0 3 v2) (fun M9 => nmM (uM M9 X0 2 ((M9 X0 2) + 1)) (fun M10 => bI (F_Main_at (X0 + 3) 5 v2 M10) (fun r12 => bI (F_Main_put (X0 + 3) 5 v2 (r12 + 1) M10) (fun M14 => some (v3, M14)))))))
set_option maxHeartbeats 4000000 in
set_option maxRecDepth 20000 in
theorem j_State_cookOne_107 {l : Launch} {ld : Nat} {Q : Option Value → gM → gL → gR → Prop} (hld : isLa ld) {X0 : Nat} {Ld1 : Nat} (hX0 : isSt X0) (hLd1 : isLa Ld1) {q : Int32 × gM} {M : gM} {L : gL} (hQ : Q (some (.int q.1)) q.2 L (rf ld))  {v2 : Int32} {v3 : Int32}  (h : J_State_cookOne_107 X0 Ld1 v2 v3 M = some q) : Wp l y_State_cookOne (0, 0, 447) 447 0 0 107 [(0, .ref X0), (1, .ref Ld1), (2, .int v2), (3, .int v3)] [] M L (rf ld) Q := by
  unfold J_State_cookOne_107 at h
  refine g_aload_n (pc1 := 108) d_State_cookOne_107 rfl 0 rfl ?_
  refine g_dup (pc1 := 109) d_State_cookOne_108 rfl rfl ?_
  refine g_geti (pc1 := 112) d_State_cookOne_109 rfl ⟨_, fo_State_37⟩ (shSt_0 hX0) (ltSt_0 hX0) ?_
  refine g_aload_n (pc1 := 113) d_State_cookOne_112 rfl 1 rfl ?_
  refine g_iload_n (pc1 := 114) d_State_cookOne_113 rfl 2 rfl ?_
  refine g_callV0 (pc1 := 117) (As := [.int v2]) (rest := [.int (M X0 1), .ref X0]) d_State_cookOne_114 rfl mo_State_87 mi_Land_priceOf mv_Land_priceOf rfl (shLa_0 hLd1) (ltLa_0 hLd1) (by decide) rfl rfl (Nat.le_of_ble_eq_true rfl) ?_
  obtain ⟨r7, hq6, h⟩ := bnd h
  refine f_Land_priceOf hld hLd1 hq6 ?_
  dsimp only [psh]
  refine g_iadd (pc1 := 118) d_State_cookOne_117 rfl ?_
  refine g_puti (pc1 := 121) d_State_cookOne_118 rfl fo_State_37 (po_6_1 _) (shSt_0 hX0) (ltSt_0 hX0) ?_
  refine Wp.lM h (fun M8 h => ?_)
  refine g_aload_n (pc1 := 122) d_State_cookOne_121 rfl 0 rfl ?_
  refine g_iload_n (pc1 := 123) d_State_cookOne_122 rfl 2 rfl ?_
  refine g_puti (pc1 := 126) d_State_cookOne_123 rfl fo_State_9 (po_6_3 _) (shSt_0 hX0) (ltSt_0 hX0) ?_
  refine Wp.lM h (fun M9 h => ?_)
  refine g_aload_n (pc1 := 127) d_State_cookOne_126 rfl 0 rfl ?_
  refine g_dup (pc1 := 128) d_State_cookOne_127 rfl rfl ?_
  refine g_geti (pc1 := 131) d_State_cookOne_128 rfl ⟨_, fo_State_40⟩ (shSt_0 hX0) (ltSt_0 hX0) ?_
  refine g_iconst (pc1 := 132) (v := 1) d_State_cookOne_131 rfl (by decide) ?_
  refine g_iadd (pc1 := 133) d_State_cookOne_132 rfl ?_
  refine g_puti (pc1 := 136) d_State_cookOne_133 rfl fo_State_40 (po_6_2 _) (shSt_0 hX0) (ltSt_0 hX0) ?_
  refine Wp.lM h (fun M10 h => ?_)
  refine g_aload_n (pc1 := 137) d_State_cookOne_136 rfl 0 rfl ?_
  refine g_getr (pc1 := 140) d_State_cookOne_137 rfl ⟨_, fo_State_22⟩ (shSt_0 hX0) (ltSt_0 hX0) (rfSt_6 ld hX0) ?_
  refine g_iload_n (pc1 := 141) d_State_cookOne_140 rfl 2 rfl ?_
  refine g_aload_n (pc1 := 142) d_State_cookOne_141 rfl 0 rfl ?_
  refine g_getr (pc1 := 145) d_State_cookOne_142 rfl ⟨_, fo_State_22⟩ (shSt_0 hX0) (ltSt_0 hX0) (rfSt_6 ld hX0) ?_
  refine g_iload_n (pc1 := 146) d_State_cookOne_145 rfl 2 rfl ?_
  refine g_callS0 (pc1 := 149) (As := [.ref (X0 + 3), .int v2]) (rest := [.int v2, .ref (X0 + 3)]) d_State_cookOne_146 rfl mo_State_53 ms_Main_at (by decide) rfl rfl (Nat.le_of_ble_eq_true rfl) ?_
  obtain ⟨r12, hq11, h⟩ := bnd h
  refine f_Main_at hld (shSt_3 hX0) (ltSt_3 hX0) (by decide) hq11 ?_
  dsimp only [psh]
  refine g_iconst (pc1 := 150) (v := 1) d_State_cookOne_149 rfl (by decide) ?_
  refine g_iadd (pc1 := 151) d_State_cookOne_150 rfl ?_
  refine g_callS0 (pc1 := 154) (As := [.ref (X0 + 3), .int v2, .int (r12 + 1)]) (rest := []) d_State_cookOne_151 rfl mo_State_57 ms_Main_put (by decide) rfl rfl (Nat.le_of_ble_eq_true rfl) ?_
  obtain ⟨M14, hq13, h⟩ := bnd h
  refine f_Main_put hld (shSt_3 hX0) (ltSt_3 hX0) (by decide) hq13 ?_
  dsimp only [psh]
  refine g_iload_n (pc1 := 155) d_State_cookOne_154 rfl 3 rfl ?_
  refine g_ireturn (Or.inl rfl) d_State_cookOne_155 rfl ?_
  cases h; exact hQ
def B_State_cookOne_74 (X0 : Nat) (Ld1 : Nat) (v2 : Int32) (v3 : Int32) (K74 : Int32 → gM → Option (Int32 × gM)) : Int32 → gM → Option (Int32 × gM) := fun v4 M =>
  (if 3 ≤ v4 then J_State_cookOne_107 X0 Ld1 v2 v3 M else bI2 (F_Land_dishForce Ld1 v2 v3 v4 (M X0 0) M) (fun r16 M17 => bI (F_Main_put (X0 + 1) 3 v4 r16 M17) (fun M19 => nmI (v4 + 1) (fun x20 => K74 x20 M19))))
def H_State_cookOne_74 (X0 : Nat) (Ld1 : Nat) (v2 : Int32) (v3 : Int32) : Nat → Int32 → gM → Option (Int32 × gM) := lpK (B_State_cookOne_74 X0 Ld1 v2 v3) (fun _ _ => none)
set_option maxHeartbeats 4000000 in
set_option maxRecDepth 20000 in
theorem h_State_cookOne_74 {l : Launch} {ld : Nat} {Q : Option Value → gM → gL → gR → Prop} (hld : isLa ld) {X0 : Nat} {Ld1 : Nat} (hX0 : isSt X0) (hLd1 : isLa Ld1) {q : Int32 × gM} {L : gL} (hQ : Q (some (.int q.1)) q.2 L (rf ld))  {v2 : Int32} {v3 : Int32}  : ∀ (f : Nat) (v4 : Int32) (M : gM), H_State_cookOne_74 X0 Ld1 v2 v3 f v4 M = some q → Wp l y_State_cookOne (0, 0, 447) 447 0 0 74 [(0, .ref X0), (1, .ref Ld1), (2, .int v2), (3, .int v3), (4, .int v4)] [] M L (rf ld) Q := by
  intro f
  induction f with
  | zero => intro v4 M h; cases h
  | succ f hK74 =>
    intro v4 M h
    replace h : B_State_cookOne_74 X0 Ld1 v2 v3 (H_State_cookOne_74 X0 Ld1 v2 v3 f) v4 M = some q := h
    unfold B_State_cookOne_74 at h
    refine g_iload (pc1 := 76) d_State_cookOne_74 rfl 4 rfl ?_
    refine g_iconst (pc1 := 77) (v := 3) d_State_cookOne_76 rfl (by decide) ?_
    refine g_icmp_ge (pc1 := 80) (tgt := 107) d_State_cookOne_77 (by decide) rfl (fun c5 => ?_) (fun c5 => ?_)
    · replace h := itp h c5
      refine Wp.loc (lv' := [(0, .ref X0), (1, .ref Ld1), (2, .int v2), (3, .int v3)]) [0, 1, 2, 3] rfl ?_
      exact j_State_cookOne_107 hld hX0 hLd1 hQ  h
    · replace h := itn h c5
      refine g_aload_n (pc1 := 81) d_State_cookOne_80 rfl 0 rfl ?_
      refine g_getr (pc1 := 84) d_State_cookOne_81 rfl ⟨_, fo_State_15⟩ (shSt_0 hX0) (ltSt_0 hX0) (rfSt_4 ld hX0) ?_
      refine g_iload (pc1 := 86) d_State_cookOne_84 rfl 4 rfl ?_
      refine g_aload_n (pc1 := 87) d_State_cookOne_86 rfl 1 rfl ?_
      refine g_iload_n (pc1 := 88) d_State_cookOne_87 rfl 2 rfl ?_
      refine g_iload_n (pc1 := 89) d_State_cookOne_88 rfl 3 rfl ?_
      refine g_iload (pc1 := 91) d_State_cookOne_89 rfl 4 rfl ?_
      refine g_aload_n (pc1 := 92) d_State_cookOne_91 rfl 0 rfl ?_
      refine g_geti (pc1 := 95) d_State_cookOne_92 rfl ⟨_, fo_State_34⟩ (shSt_0 hX0) (ltSt_0 hX0) ?_
      refine g_callV0 (pc1 := 98) (As := [.int v2, .int v3, .int v4, .int (M X0 0)]) (rest := [.int v4, .ref (X0 + 1)]) d_State_cookOne_95 rfl mo_State_83 mi_Land_dishForce mv_Land_dishForce rfl (shLa_0 hLd1) (ltLa_0 hLd1) (by decide) rfl rfl (Nat.le_of_ble_eq_true rfl) ?_
      obtain ⟨r16, M17, hq15, h⟩ := bnd2 h
      refine f_Land_dishForce hld hLd1 hq15 ?_
      dsimp only [psh]
      refine g_callS0 (pc1 := 101) (As := [.ref (X0 + 1), .int v4, .int r16]) (rest := []) d_State_cookOne_98 rfl mo_State_57 ms_Main_put (by decide) rfl rfl (Nat.le_of_ble_eq_true rfl) ?_
      obtain ⟨M19, hq18, h⟩ := bnd h
      refine f_Main_put hld (shSt_1 hX0) (ltSt_1 hX0) (by decide) hq18 ?_
      dsimp only [psh]
      obtain ⟨x20, ex20, h⟩ := ltI h
      refine g_iinc (pc1 := 104) (v := x20) (lv' := [(0, .ref X0), (1, .ref Ld1), (2, .int v2), (3, .int v3), (4, .int x20)]) d_State_cookOne_101 rfl 4 rfl (by rw [ex20]; rfl) (by decide) [1, 2, 3, 4, 0] rfl ?_
      refine g_goto (tgt := 74) d_State_cookOne_104 (by decide) ?_
      exact hK74 x20 M19 h
def J_State_cookOne_71 (X0 : Nat) (Ld1 : Nat) (v2 : Int32) (v3 : Int32) (M : gM) : Option (Int32 × gM) :=
  H_State_cookOne_74 X0 Ld1 v2 v3 FU 0 M
set_option maxHeartbeats 4000000 in
set_option maxRecDepth 20000 in
theorem j_State_cookOne_71 {l : Launch} {ld : Nat} {Q : Option Value → gM → gL → gR → Prop} (hld : isLa ld) {X0 : Nat} {Ld1 : Nat} (hX0 : isSt X0) (hLd1 : isLa Ld1) {q : Int32 × gM} {M : gM} {L : gL} (hQ : Q (some (.int q.1)) q.2 L (rf ld))  {v2 : Int32} {v3 : Int32}  (h : J_State_cookOne_71 X0 Ld1 v2 v3 M = some q) : Wp l y_State_cookOne (0, 0, 447) 447 0 0 71 [(0, .ref X0), (1, .ref Ld1), (2, .int v2), (3, .int v3)] [] M L (rf ld) Q := by
  unfold J_State_cookOne_71 at h
  refine g_iconst (pc1 := 72) (v := 0) d_State_cookOne_71 rfl (by decide) ?_
  refine g_istore (pc1 := 74) (lv' := [(0, .ref X0), (1, .ref Ld1), (2, .int v2), (3, .int v3), (4, .int 0)]) d_State_cookOne_72 rfl (by decide) [1, 2, 3, 4, 0] rfl ?_
  exact h_State_cookOne_74 hld hX0 hLd1 hQ  _ 0 M h
def J_State_cookOne_41 (X0 : Nat) (Ld1 : Nat) (K14 : Int32 → gM → Option (Int32 × gM)) (v2 : Int32) (v3 : Int32) (v4 : Int32) (s0 : Int32) (s1 : Int32) (M : gM) : Option (Int32 × gM) :=
  nmI (s0 + s1) (fun x24 => bI (F_Main_at (X0 + 2) 6 v4 M) (fun r26 => bI (F_Main_put (X0 + 2) 6 v4 (r26 - x24) M) (fun M28 => nmI (v4 + 1) (fun x29 => K14 x29 M28))))
set_option maxHeartbeats 4000000 in
set_option maxRecDepth 20000 in
theorem j_State_cookOne_41 {l : Launch} {ld : Nat} {Q : Option Value → gM → gL → gR → Prop} (hld : isLa ld) {X0 : Nat} {Ld1 : Nat} (hX0 : isSt X0) (hLd1 : isLa Ld1) {q : Int32 × gM} {M : gM} {L : gL} (hQ : Q (some (.int q.1)) q.2 L (rf ld)) {K14 : Int32 → gM → Option (Int32 × gM)} {v2 : Int32} {v3 : Int32} {v4 : Int32} {s0 : Int32} {s1 : Int32} (hK14 : ∀ (w4 : Int32) (M : gM), K14 w4 M = some q → Wp l y_State_cookOne (0, 0, 447) 447 0 0 14 [(0, .ref X0), (1, .ref Ld1), (2, .int v2), (3, .int v3), (4, .int w4)] [] M L (rf ld) Q) (h : J_State_cookOne_41 X0 Ld1 K14 v2 v3 v4 s0 s1 M = some q) : Wp l y_State_cookOne (0, 0, 447) 447 0 0 41 [(0, .ref X0), (1, .ref Ld1), (2, .int v2), (3, .int v3), (4, .int v4)] [.int s1, .int s0] M L (rf ld) Q := by
  unfold J_State_cookOne_41 at h
  refine g_iadd (pc1 := 42) d_State_cookOne_41 rfl ?_
  refine Wp.lI h (fun x24 h => ?_)
  refine g_istore (pc1 := 44) (lv' := [(0, .ref X0), (1, .ref Ld1), (2, .int v2), (3, .int v3), (4, .int v4), (5, .int x24)]) d_State_cookOne_42 rfl (by decide) [1, 2, 3, 4, 5, 0] rfl ?_
  refine g_aload_n (pc1 := 45) d_State_cookOne_44 rfl 0 rfl ?_
  refine g_getr (pc1 := 48) d_State_cookOne_45 rfl ⟨_, fo_State_19⟩ (shSt_0 hX0) (ltSt_0 hX0) (rfSt_5 ld hX0) ?_
  refine g_iload (pc1 := 50) d_State_cookOne_48 rfl 4 rfl ?_
  refine g_aload_n (pc1 := 51) d_State_cookOne_50 rfl 0 rfl ?_
  refine g_getr (pc1 := 54) d_State_cookOne_51 rfl ⟨_, fo_State_19⟩ (shSt_0 hX0) (ltSt_0 hX0) (rfSt_5 ld hX0) ?_
  refine g_iload (pc1 := 56) d_State_cookOne_54 rfl 4 rfl ?_
  refine g_callS0 (pc1 := 59) (As := [.ref (X0 + 2), .int v4]) (rest := [.int v4, .ref (X0 + 2)]) d_State_cookOne_56 rfl mo_State_53 ms_Main_at (by decide) rfl rfl (Nat.le_of_ble_eq_true rfl) ?_
  obtain ⟨r26, hq25, h⟩ := bnd h
  refine f_Main_at hld (shSt_2 hX0) (ltSt_2 hX0) (by decide) hq25 ?_
  dsimp only [psh]
  refine g_iload (pc1 := 61) d_State_cookOne_59 rfl 5 rfl ?_
  refine g_isub (pc1 := 62) d_State_cookOne_61 rfl ?_
  refine g_callS0 (pc1 := 65) (As := [.ref (X0 + 2), .int v4, .int (r26 - x24)]) (rest := []) d_State_cookOne_62 rfl mo_State_57 ms_Main_put (by decide) rfl rfl (Nat.le_of_ble_eq_true rfl) ?_
  obtain ⟨M28, hq27, h⟩ := bnd h
  refine f_Main_put hld (shSt_2 hX0) (ltSt_2 hX0) (by decide) hq27 ?_
  dsimp only [psh]
  obtain ⟨x29, ex29, h⟩ := ltI h
  refine g_iinc (pc1 := 68) (v := x29) (lv' := [(0, .ref X0), (1, .ref Ld1), (2, .int v2), (3, .int v3), (4, .int x29), (5, .int x24)]) d_State_cookOne_65 rfl 4 rfl (by rw [ex29]; rfl) (by decide) [1, 2, 3, 4, 0, 5] rfl ?_
  refine g_goto (tgt := 14) d_State_cookOne_68 (by decide) ?_
  refine Wp.loc (lv' := [(0, .ref X0), (1, .ref Ld1), (2, .int v2), (3, .int v3), (4, .int x29)]) [0, 1, 2, 3, 4] rfl ?_
  exact hK14 x29 M28 h
def B_State_cookOne_14 (X0 : Nat) (Ld1 : Nat) (v2 : Int32) (v3 : Int32) (K14 : Int32 → gM → Option (Int32 × gM)) : Int32 → gM → Option (Int32 × gM) := fun v4 M =>
  (if (M Ld1 0) ≤ v4 then J_State_cookOne_71 X0 Ld1 v2 v3 M else bI (F_Land_inDish Ld1 v2 v4 M) (fun r22 => (if v4 = v3 then J_State_cookOne_41 X0 Ld1 K14 v2 v3 v4 r22 1 M else J_State_cookOne_41 X0 Ld1 K14 v2 v3 v4 r22 0 M)))
def H_State_cookOne_14 (X0 : Nat) (Ld1 : Nat) (v2 : Int32) (v3 : Int32) : Nat → Int32 → gM → Option (Int32 × gM) := lpK (B_State_cookOne_14 X0 Ld1 v2 v3) (fun _ _ => none)
set_option maxHeartbeats 4000000 in
set_option maxRecDepth 20000 in
theorem h_State_cookOne_14 {l : Launch} {ld : Nat} {Q : Option Value → gM → gL → gR → Prop} (hld : isLa ld) {X0 : Nat} {Ld1 : Nat} (hX0 : isSt X0) (hLd1 : isLa Ld1) {q : Int32 × gM} {L : gL} (hQ : Q (some (.int q.1)) q.2 L (rf ld))  {v2 : Int32} {v3 : Int32}  : ∀ (f : Nat) (v4 : Int32) (M : gM), H_State_cookOne_14 X0 Ld1 v2 v3 f v4 M = some q → Wp l y_State_cookOne (0, 0, 447) 447 0 0 14 [(0, .ref X0), (1, .ref Ld1), (2, .int v2), (3, .int v3), (4, .int v4)] [] M L (rf ld) Q := by
  intro f
  induction f with
  | zero => intro v4 M h; cases h
  | succ f hK14 =>
    intro v4 M h
    replace h : B_State_cookOne_14 X0 Ld1 v2 v3 (H_State_cookOne_14 X0 Ld1 v2 v3 f) v4 M = some q := h
    unfold B_State_cookOne_14 at h
    refine g_iload (pc1 := 16) d_State_cookOne_14 rfl 4 rfl ?_
    refine g_aload_n (pc1 := 17) d_State_cookOne_16 rfl 1 rfl ?_
    refine g_geti (pc1 := 20) d_State_cookOne_17 rfl ⟨_, fo_State_47⟩ (shLa_0 hLd1) (ltLa_0 hLd1) ?_
    refine g_icmp_ge (pc1 := 23) (tgt := 71) d_State_cookOne_20 (by decide) rfl (fun c4 => ?_) (fun c4 => ?_)
    · replace h := itp h c4
      refine Wp.loc (lv' := [(0, .ref X0), (1, .ref Ld1), (2, .int v2), (3, .int v3)]) [0, 1, 2, 3] rfl ?_
      exact j_State_cookOne_71 hld hX0 hLd1 hQ  h
    · replace h := itn h c4
      refine g_aload_n (pc1 := 24) d_State_cookOne_23 rfl 1 rfl ?_
      refine g_iload_n (pc1 := 25) d_State_cookOne_24 rfl 2 rfl ?_
      refine g_iload (pc1 := 27) d_State_cookOne_25 rfl 4 rfl ?_
      refine g_callV0 (pc1 := 30) (As := [.int v2, .int v4]) (rest := []) d_State_cookOne_27 rfl mo_State_65 mi_Land_inDish mv_Land_inDish rfl (shLa_0 hLd1) (ltLa_0 hLd1) (by decide) rfl rfl (Nat.le_of_ble_eq_true rfl) ?_
      obtain ⟨r22, hq21, h⟩ := bnd h
      refine f_Land_inDish hld hLd1 hq21 ?_
      dsimp only [psh]
      refine g_iload (pc1 := 32) d_State_cookOne_30 rfl 4 rfl ?_
      refine g_iload_n (pc1 := 33) d_State_cookOne_32 rfl 3 rfl ?_
      refine g_icmp_ne (pc1 := 36) (tgt := 40) d_State_cookOne_33 (by decide) rfl (fun c23 => ?_) (fun c23 => ?_)
      · replace h := itn h c23
        refine g_iconst (pc1 := 41) (v := 0) d_State_cookOne_40 rfl (by decide) ?_
        exact j_State_cookOne_41 hld hX0 hLd1 hQ hK14 h
      · replace h := itp h c23
        refine g_iconst (pc1 := 37) (v := 1) d_State_cookOne_36 rfl (by decide) ?_
        refine g_goto (tgt := 41) d_State_cookOne_37 (by decide) ?_
        exact j_State_cookOne_41 hld hX0 hLd1 hQ hK14 h
def F_State_cookOne (X0 : Nat) (Ld1 : Nat) (p2 : Int32) (M : gM) : Option (Int32 × gM) :=
  bI2 (F_State_slipInto X0 Ld1 p2 (M Ld1 4) M) (fun r2 M3 => H_State_cookOne_14 X0 Ld1 p2 r2 FU 0 M3)
set_option maxHeartbeats 4000000 in
set_option maxRecDepth 20000 in
theorem f_State_cookOne {l : Launch} {ld : Nat} {M : gM} {L : gL} {Q : Option Value → gM → gL → gR → Prop} (hld : isLa ld) {X0 : Nat} {Ld1 : Nat} {p2 : Int32} (hX0 : isSt X0) (hLd1 : isLa Ld1) {q : Int32 × gM} (h : F_State_cookOne X0 Ld1 p2 M = some q) (hQ : Q (some (.int q.1)) q.2 L (rf ld)) : Tm l y_State_cookOne (0, 0, 447) 447 [.ref X0, .ref Ld1, .int p2] M L (rf ld) Q := by
  refine Tm.of (by decide) (Nat.le_of_ble_eq_true rfl) ?_
  show Wp l y_State_cookOne (0, 0, 447) 447 0 0 0 [(0, .ref X0), (1, .ref Ld1), (2, .int p2)] [] M L (rf ld) Q
  unfold F_State_cookOne at h
  refine g_aload_n (pc1 := 1) d_State_cookOne_0 rfl 0 rfl ?_
  refine g_aload_n (pc1 := 2) d_State_cookOne_1 rfl 1 rfl ?_
  refine g_iload_n (pc1 := 3) d_State_cookOne_2 rfl 2 rfl ?_
  refine g_aload_n (pc1 := 4) d_State_cookOne_3 rfl 1 rfl ?_
  refine g_geti (pc1 := 7) d_State_cookOne_4 rfl ⟨_, fo_State_76⟩ (shLa_0 hLd1) (ltLa_0 hLd1) ?_
  refine g_callV0 (pc1 := 10) (As := [.ref Ld1, .int p2, .int (M Ld1 4)]) (rest := []) d_State_cookOne_7 rfl mo_State_79 mi_State_slipInto mv_State_slipInto rfl (shSt_0 hX0) (ltSt_0 hX0) (by decide) rfl rfl (Nat.le_of_ble_eq_true rfl) ?_
  obtain ⟨r2, M3, hq1, h⟩ := bnd2 h
  refine f_State_slipInto hld hX0 hLd1 hq1 ?_
  dsimp only [psh]
  refine g_istore_n (pc1 := 11) (lv' := [(0, .ref X0), (1, .ref Ld1), (2, .int p2), (3, .int r2)]) d_State_cookOne_10 rfl rfl (by decide) [1, 2, 3, 0] rfl ?_
  refine g_iconst (pc1 := 12) (v := 0) d_State_cookOne_11 rfl (by decide) ?_
  refine g_istore (pc1 := 14) (lv' := [(0, .ref X0), (1, .ref Ld1), (2, .int p2), (3, .int r2), (4, .int 0)]) d_State_cookOne_12 rfl (by decide) [1, 2, 3, 4, 0] rfl ?_
  exact h_State_cookOne_14 hld hX0 hLd1 hQ  _ 0 M3 h

def J_Told_gather_65 (Ld1 : Nat) (K8 : Int32 → gM → Option (gM)) (v2 : Int32) (v3 : Int32) (v4 : Int32) (M : gM) : Option (gM) :=
  nmI (v4 + 1) (fun x4 => K8 x4 M)
set_option maxHeartbeats 4000000 in
set_option maxRecDepth 20000 in
theorem j_Told_gather_65 {l : Launch} {ld : Nat} {Q : Option Value → gM → gL → gR → Prop} (hld : isLa ld) {Ld1 : Nat} (hLd1 : isLa Ld1) {q : gM} {M : gM} {L : gL} (hQ : Q none q L (rf ld)) {K8 : Int32 → gM → Option (gM)} {v2 : Int32} {v3 : Int32} {v4 : Int32} (hK8 : ∀ (w4 : Int32) (M : gM), K8 w4 M = some q → Wp l y_Told_gather (0, 0, 447) 447 0 0 8 [(0, .ref 383), (1, .ref Ld1), (2, .int v2), (3, .int v3), (4, .int w4)] [] M L (rf ld) Q) (h : J_Told_gather_65 Ld1 K8 v2 v3 v4 M = some q) : Wp l y_Told_gather (0, 0, 447) 447 0 0 65 [(0, .ref 383), (1, .ref Ld1), (2, .int v2), (3, .int v3), (4, .int v4)] [] M L (rf ld) Q := by
  unfold J_Told_gather_65 at h
  obtain ⟨x4, ex4, h⟩ := ltI h
  refine g_iinc (pc1 := 68) (v := x4) (lv' := [(0, .ref 383), (1, .ref Ld1), (2, .int v2), (3, .int v3), (4, .int x4)]) d_Told_gather_65 rfl 4 rfl (by rw [ex4]; rfl) (by decide) [1, 2, 3, 4, 0] rfl ?_
  refine g_goto (tgt := 8) d_Told_gather_68 (by decide) ?_
  exact hK8 x4 M h
def J_Told_gather_59 (Ld1 : Nat) (K8 : Int32 → gM → Option (gM)) (K20 : Int32 → gM → Option (gM)) (v2 : Int32) (v3 : Int32) (v4 : Int32) (v5 : Int32) (M : gM) : Option (gM) :=
  nmI (v5 + 1) (fun x9 => K20 x9 M)
set_option maxHeartbeats 4000000 in
set_option maxRecDepth 20000 in
theorem j_Told_gather_59 {l : Launch} {ld : Nat} {Q : Option Value → gM → gL → gR → Prop} (hld : isLa ld) {Ld1 : Nat} (hLd1 : isLa Ld1) {q : gM} {M : gM} {L : gL} (hQ : Q none q L (rf ld)) {K8 : Int32 → gM → Option (gM)} {K20 : Int32 → gM → Option (gM)} {v2 : Int32} {v3 : Int32} {v4 : Int32} {v5 : Int32} (hK8 : ∀ (w4 : Int32) (M : gM), K8 w4 M = some q → Wp l y_Told_gather (0, 0, 447) 447 0 0 8 [(0, .ref 383), (1, .ref Ld1), (2, .int v2), (3, .int v3), (4, .int w4)] [] M L (rf ld) Q) (hK20 : ∀ (w5 : Int32) (M : gM), K20 w5 M = some q → Wp l y_Told_gather (0, 0, 447) 447 0 0 20 [(0, .ref 383), (1, .ref Ld1), (2, .int v2), (3, .int v3), (4, .int v4), (5, .int w5)] [] M L (rf ld) Q) (h : J_Told_gather_59 Ld1 K8 K20 v2 v3 v4 v5 M = some q) : Wp l y_Told_gather (0, 0, 447) 447 0 0 59 [(0, .ref 383), (1, .ref Ld1), (2, .int v2), (3, .int v3), (4, .int v4), (5, .int v5)] [] M L (rf ld) Q := by
  unfold J_Told_gather_59 at h
  obtain ⟨x9, ex9, h⟩ := ltI h
  refine g_iinc (pc1 := 62) (v := x9) (lv' := [(0, .ref 383), (1, .ref Ld1), (2, .int v2), (3, .int v3), (4, .int v4), (5, .int x9)]) d_Told_gather_59 rfl 5 rfl (by rw [ex9]; rfl) (by decide) [1, 2, 3, 4, 5, 0] rfl ?_
  refine g_goto (tgt := 20) d_Told_gather_62 (by decide) ?_
  exact hK20 x9 M h
def B_Told_gather_20 (Ld1 : Nat) (K8 : Int32 → gM → Option (gM)) (v2 : Int32) (v3 : Int32) (v4 : Int32) (K20 : Int32 → gM → Option (gM)) : Int32 → gM → Option (gM) := fun v5 M =>
  (if 13 ≤ v5 then J_Told_gather_65 Ld1 K8 v2 v3 v4 M else bI2 (F_Told_lay Ld1 v4 v5 M) (fun r6 M7 => (if r6 = 0 then J_Told_gather_59 Ld1 K8 K20 v2 v3 v4 v5 M7 else bI2 (F_Told_isAsKnown Ld1 v2 v3 M7) (fun r11 M12 => (if r11 = 0 then J_Told_gather_59 Ld1 K8 K20 v2 v3 v4 v5 M12 else nmM (uM M12 383 7 ((M12 383 7) + 1)) (fun M14 => J_Told_gather_59 Ld1 K8 K20 v2 v3 v4 v5 M14))))))
def H_Told_gather_20 (Ld1 : Nat) (K8 : Int32 → gM → Option (gM)) (v2 : Int32) (v3 : Int32) (v4 : Int32) : Nat → Int32 → gM → Option (gM) := lpK (B_Told_gather_20 Ld1 K8 v2 v3 v4) (fun _ _ => none)
set_option maxHeartbeats 4000000 in
set_option maxRecDepth 20000 in
theorem h_Told_gather_20 {l : Launch} {ld : Nat} {Q : Option Value → gM → gL → gR → Prop} (hld : isLa ld) {Ld1 : Nat} (hLd1 : isLa Ld1) {q : gM} {L : gL} (hQ : Q none q L (rf ld)) {K8 : Int32 → gM → Option (gM)} {v2 : Int32} {v3 : Int32} {v4 : Int32} (hK8 : ∀ (w4 : Int32) (M : gM), K8 w4 M = some q → Wp l y_Told_gather (0, 0, 447) 447 0 0 8 [(0, .ref 383), (1, .ref Ld1), (2, .int v2), (3, .int v3), (4, .int w4)] [] M L (rf ld) Q) : ∀ (f : Nat) (v5 : Int32) (M : gM), H_Told_gather_20 Ld1 K8 v2 v3 v4 f v5 M = some q → Wp l y_Told_gather (0, 0, 447) 447 0 0 20 [(0, .ref 383), (1, .ref Ld1), (2, .int v2), (3, .int v3), (4, .int v4), (5, .int v5)] [] M L (rf ld) Q := by
  intro f
  induction f with
  | zero => intro v5 M h; cases h
  | succ f hK20 =>
    intro v5 M h
    replace h : B_Told_gather_20 Ld1 K8 v2 v3 v4 (H_Told_gather_20 Ld1 K8 v2 v3 v4 f) v5 M = some q := h
    unfold B_Told_gather_20 at h
    refine g_iload (pc1 := 22) d_Told_gather_20 rfl 5 rfl ?_
    refine g_bipush (pc1 := 24) (v := 13) d_Told_gather_22 rfl (by decide) ?_
    refine g_icmp_ge (pc1 := 27) (tgt := 65) d_Told_gather_24 (by decide) rfl (fun c3 => ?_) (fun c3 => ?_)
    · replace h := itp h c3
      refine Wp.loc (lv' := [(0, .ref 383), (1, .ref Ld1), (2, .int v2), (3, .int v3), (4, .int v4)]) [0, 1, 2, 3, 4] rfl ?_
      exact j_Told_gather_65 hld hLd1 hQ hK8 h
    · replace h := itn h c3
      refine g_aload_n (pc1 := 28) d_Told_gather_27 rfl 0 rfl ?_
      refine g_aload_n (pc1 := 29) d_Told_gather_28 rfl 1 rfl ?_
      refine g_iload (pc1 := 31) d_Told_gather_29 rfl 4 rfl ?_
      refine g_iload (pc1 := 33) d_Told_gather_31 rfl 5 rfl ?_
      refine g_callV0 (pc1 := 36) (As := [.ref Ld1, .int v4, .int v5]) (rest := []) d_Told_gather_33 rfl mo_Told_49 mi_Told_lay mv_Told_lay rfl sh_383 (by decide) (by decide) rfl rfl (Nat.le_of_ble_eq_true rfl) ?_
      obtain ⟨r6, M7, hq5, h⟩ := bnd2 h
      refine f_Told_lay hld hLd1 hq5 ?_
      dsimp only [psh]
      refine g_if_eq (pc1 := 39) (tgt := 59) d_Told_gather_36 (by decide) rfl (fun c8 => ?_) (fun c8 => ?_)
      · replace h := itp h c8
        exact j_Told_gather_59 hld hLd1 hQ hK8 hK20 h
      · replace h := itn h c8
        refine g_aload_n (pc1 := 40) d_Told_gather_39 rfl 0 rfl ?_
        refine g_aload_n (pc1 := 41) d_Told_gather_40 rfl 1 rfl ?_
        refine g_iload_n (pc1 := 42) d_Told_gather_41 rfl 2 rfl ?_
        refine g_iload_n (pc1 := 43) d_Told_gather_42 rfl 3 rfl ?_
        refine g_callV0 (pc1 := 46) (As := [.ref Ld1, .int v2, .int v3]) (rest := []) d_Told_gather_43 rfl mo_Told_53 mi_Told_isAsKnown mv_Told_isAsKnown rfl sh_383 (by decide) (by decide) rfl rfl (Nat.le_of_ble_eq_true rfl) ?_
        obtain ⟨r11, M12, hq10, h⟩ := bnd2 h
        refine f_Told_isAsKnown hld hLd1 hq10 ?_
        dsimp only [psh]
        refine g_if_eq (pc1 := 49) (tgt := 59) d_Told_gather_46 (by decide) rfl (fun c13 => ?_) (fun c13 => ?_)
        · replace h := itp h c13
          exact j_Told_gather_59 hld hLd1 hQ hK8 hK20 h
        · replace h := itn h c13
          refine g_aload_n (pc1 := 50) d_Told_gather_49 rfl 0 rfl ?_
          refine g_dup (pc1 := 51) d_Told_gather_50 rfl rfl ?_
          refine g_geti (pc1 := 54) d_Told_gather_51 rfl ⟨_, fo_Told_41⟩ sh_383 (by decide) ?_
          refine g_iconst (pc1 := 55) (v := 1) d_Told_gather_54 rfl (by decide) ?_
          refine g_iadd (pc1 := 56) d_Told_gather_55 rfl ?_
          refine g_puti (pc1 := 59) d_Told_gather_56 rfl fo_Told_41 (po_9_7 _) sh_383 (by decide) ?_
          refine Wp.lM h (fun M14 h => ?_)
          exact j_Told_gather_59 hld hLd1 hQ hK8 hK20 h
def B_Told_gather_8 (Ld1 : Nat) (v2 : Int32) (v3 : Int32) (K8 : Int32 → gM → Option (gM)) : Int32 → gM → Option (gM) := fun v4 M =>
  (if (M Ld1 1) ≤ v4 then some M else H_Told_gather_20 Ld1 K8 v2 v3 v4 FU 0 M)
def H_Told_gather_8 (Ld1 : Nat) (v2 : Int32) (v3 : Int32) : Nat → Int32 → gM → Option (gM) := lpK (B_Told_gather_8 Ld1 v2 v3) (fun _ _ => none)
set_option maxHeartbeats 4000000 in
set_option maxRecDepth 20000 in
theorem h_Told_gather_8 {l : Launch} {ld : Nat} {Q : Option Value → gM → gL → gR → Prop} (hld : isLa ld) {Ld1 : Nat} (hLd1 : isLa Ld1) {q : gM} {L : gL} (hQ : Q none q L (rf ld))  {v2 : Int32} {v3 : Int32}  : ∀ (f : Nat) (v4 : Int32) (M : gM), H_Told_gather_8 Ld1 v2 v3 f v4 M = some q → Wp l y_Told_gather (0, 0, 447) 447 0 0 8 [(0, .ref 383), (1, .ref Ld1), (2, .int v2), (3, .int v3), (4, .int v4)] [] M L (rf ld) Q := by
  intro f
  induction f with
  | zero => intro v4 M h; cases h
  | succ f hK8 =>
    intro v4 M h
    replace h : B_Told_gather_8 Ld1 v2 v3 (H_Told_gather_8 Ld1 v2 v3 f) v4 M = some q := h
    unfold B_Told_gather_8 at h
    refine g_iload (pc1 := 10) d_Told_gather_8 rfl 4 rfl ?_
    refine g_aload_n (pc1 := 11) d_Told_gather_10 rfl 1 rfl ?_
    refine g_geti (pc1 := 14) d_Told_gather_11 rfl ⟨_, fo_Told_44⟩ (shLa_0 hLd1) (ltLa_0 hLd1) ?_
    refine g_icmp_ge (pc1 := 17) (tgt := 71) d_Told_gather_14 (by decide) rfl (fun c2 => ?_) (fun c2 => ?_)
    · replace h := itp h c2
      refine g_return rfl d_Told_gather_71 rfl ?_
      cases h; exact hQ
    · replace h := itn h c2
      refine g_iconst (pc1 := 18) (v := 0) d_Told_gather_17 rfl (by decide) ?_
      refine g_istore (pc1 := 20) (lv' := [(0, .ref 383), (1, .ref Ld1), (2, .int v2), (3, .int v3), (4, .int v4), (5, .int 0)]) d_Told_gather_18 rfl (by decide) [1, 2, 3, 4, 5, 0] rfl ?_
      exact h_Told_gather_20 hld hLd1 hQ hK8 _ 0 M h
def F_Told_gather (Ld1 : Nat) (p2 : Int32) (p3 : Int32) (M : gM) : Option (gM) :=
  nmM (uM M 383 7 0) (fun M1 => H_Told_gather_8 Ld1 p2 p3 FU 0 M1)
set_option maxHeartbeats 4000000 in
set_option maxRecDepth 20000 in
theorem f_Told_gather {l : Launch} {ld : Nat} {M : gM} {L : gL} {Q : Option Value → gM → gL → gR → Prop} (hld : isLa ld) {Ld1 : Nat} {p2 : Int32} {p3 : Int32} (hLd1 : isLa Ld1) {q : gM} (h : F_Told_gather Ld1 p2 p3 M = some q) (hQ : Q none q L (rf ld)) : Tm l y_Told_gather (0, 0, 447) 447 [.ref 383, .ref Ld1, .int p2, .int p3] M L (rf ld) Q := by
  refine Tm.of (by decide) (Nat.le_of_ble_eq_true rfl) ?_
  show Wp l y_Told_gather (0, 0, 447) 447 0 0 0 [(0, .ref 383), (1, .ref Ld1), (2, .int p2), (3, .int p3)] [] M L (rf ld) Q
  unfold F_Told_gather at h
  refine g_aload_n (pc1 := 1) d_Told_gather_0 rfl 0 rfl ?_
  refine g_iconst (pc1 := 2) (v := 0) d_Told_gather_1 rfl (by decide) ?_
  refine g_puti (pc1 := 5) d_Told_gather_2 rfl fo_Told_41 (po_9_7 _) sh_383 (by decide) ?_
  refine Wp.lM h (fun M1 h => ?_)
  refine g_iconst (pc1 := 6) (v := 0) d_Told_gather_5 rfl (by decide) ?_
  refine g_istore (pc1 := 8) (lv' := [(0, .ref 383), (1, .ref Ld1), (2, .int p2), (3, .int p3), (4, .int 0)]) d_Told_gather_6 rfl (by decide) [1, 2, 3, 4, 0] rfl ?_
  exact h_Told_gather_8 hld hLd1 hQ  _ 0 M1 h

def J_Told_nextTaste_74 (Ld1 : Nat) (K14 : Int32 → Int32 → Int32 → gM → Option (Int32 × gM)) (v2 : Int32) (v3 : Int32) (v4 : Int32) (v5 : Int32) (M : gM) : Option (Int32 × gM) :=
  nmI (v5 + 1) (fun x5 => K14 v3 v4 x5 M)
set_option maxHeartbeats 4000000 in
set_option maxRecDepth 20000 in
theorem j_Told_nextTaste_74 {l : Launch} {ld : Nat} {Q : Option Value → gM → gL → gR → Prop} (hld : isLa ld) {Ld1 : Nat} (hLd1 : isLa Ld1) {q : Int32 × gM} {M : gM} {L : gL} (hQ : Q (some (.int q.1)) q.2 L (rf ld)) {K14 : Int32 → Int32 → Int32 → gM → Option (Int32 × gM)} {v2 : Int32} {v3 : Int32} {v4 : Int32} {v5 : Int32} (hK14 : ∀ (w3 : Int32) (w4 : Int32) (w5 : Int32) (M : gM), K14 w3 w4 w5 M = some q → Wp l y_Told_nextTaste (0, 0, 447) 447 0 0 14 [(0, .ref 383), (1, .ref Ld1), (2, .int v2), (3, .int w3), (4, .int w4), (5, .int w5)] [] M L (rf ld) Q) (h : J_Told_nextTaste_74 Ld1 K14 v2 v3 v4 v5 M = some q) : Wp l y_Told_nextTaste (0, 0, 447) 447 0 0 74 [(0, .ref 383), (1, .ref Ld1), (2, .int v2), (3, .int v3), (4, .int v4), (5, .int v5)] [] M L (rf ld) Q := by
  unfold J_Told_nextTaste_74 at h
  obtain ⟨x5, ex5, h⟩ := ltI h
  refine g_iinc (pc1 := 77) (v := x5) (lv' := [(0, .ref 383), (1, .ref Ld1), (2, .int v2), (3, .int v3), (4, .int v4), (5, .int x5)]) d_Told_nextTaste_74 rfl 5 rfl (by rw [ex5]; rfl) (by decide) [1, 2, 3, 4, 5, 0] rfl ?_
  refine g_goto (tgt := 14) d_Told_nextTaste_77 (by decide) ?_
  exact hK14 v3 v4 x5 M h
def J_Told_nextTaste_68 (Ld1 : Nat) (K14 : Int32 → Int32 → Int32 → gM → Option (Int32 × gM)) (K30 : Int32 → Int32 → Int32 → gM → Option (Int32 × gM)) (v2 : Int32) (v3 : Int32) (v4 : Int32) (v5 : Int32) (v6 : Int32) (M : gM) : Option (Int32 × gM) :=
  nmI (v6 + 1) (fun x10 => K30 v3 v4 x10 M)
set_option maxHeartbeats 4000000 in
set_option maxRecDepth 20000 in
theorem j_Told_nextTaste_68 {l : Launch} {ld : Nat} {Q : Option Value → gM → gL → gR → Prop} (hld : isLa ld) {Ld1 : Nat} (hLd1 : isLa Ld1) {q : Int32 × gM} {M : gM} {L : gL} (hQ : Q (some (.int q.1)) q.2 L (rf ld)) {K14 : Int32 → Int32 → Int32 → gM → Option (Int32 × gM)} {K30 : Int32 → Int32 → Int32 → gM → Option (Int32 × gM)} {v2 : Int32} {v3 : Int32} {v4 : Int32} {v5 : Int32} {v6 : Int32} (hK14 : ∀ (w3 : Int32) (w4 : Int32) (w5 : Int32) (M : gM), K14 w3 w4 w5 M = some q → Wp l y_Told_nextTaste (0, 0, 447) 447 0 0 14 [(0, .ref 383), (1, .ref Ld1), (2, .int v2), (3, .int w3), (4, .int w4), (5, .int w5)] [] M L (rf ld) Q) (hK30 : ∀ (w3 : Int32) (w4 : Int32) (w6 : Int32) (M : gM), K30 w3 w4 w6 M = some q → Wp l y_Told_nextTaste (0, 0, 447) 447 0 0 30 [(0, .ref 383), (1, .ref Ld1), (2, .int v2), (3, .int w3), (4, .int w4), (5, .int v5), (6, .int w6)] [] M L (rf ld) Q) (h : J_Told_nextTaste_68 Ld1 K14 K30 v2 v3 v4 v5 v6 M = some q) : Wp l y_Told_nextTaste (0, 0, 447) 447 0 0 68 [(0, .ref 383), (1, .ref Ld1), (2, .int v2), (3, .int v3), (4, .int v4), (5, .int v5), (6, .int v6)] [] M L (rf ld) Q := by
  unfold J_Told_nextTaste_68 at h
  obtain ⟨x10, ex10, h⟩ := ltI h
  refine g_iinc (pc1 := 71) (v := x10) (lv' := [(0, .ref 383), (1, .ref Ld1), (2, .int v2), (3, .int v3), (4, .int v4), (5, .int v5), (6, .int x10)]) d_Told_nextTaste_68 rfl 6 rfl (by rw [ex10]; rfl) (by decide) [1, 2, 3, 4, 5, 6, 0] rfl ?_
  refine g_goto (tgt := 30) d_Told_nextTaste_71 (by decide) ?_
  exact hK30 v3 v4 x10 M h
def B_Told_nextTaste_30 (Ld1 : Nat) (K14 : Int32 → Int32 → Int32 → gM → Option (Int32 × gM)) (v2 : Int32) (v5 : Int32) (K30 : Int32 → Int32 → Int32 → gM → Option (Int32 × gM)) : Int32 → Int32 → Int32 → gM → Option (Int32 × gM) := fun v3 v4 v6 M =>
  (if 10 ≤ v6 then J_Told_nextTaste_74 Ld1 K14 v2 v3 v4 v5 M else bI2 (F_Told_mostAlike Ld1 v2 v5 v6 M) (fun r7 M8 => (if v3 ≤ r7 then J_Told_nextTaste_68 Ld1 K14 K30 v2 v3 v4 v5 v6 M8 else nmI ((10 * v5) + v6) (fun x11 => J_Told_nextTaste_68 Ld1 K14 K30 v2 r7 x11 v5 v6 M8))))
def H_Told_nextTaste_30 (Ld1 : Nat) (K14 : Int32 → Int32 → Int32 → gM → Option (Int32 × gM)) (v2 : Int32) (v5 : Int32) : Nat → Int32 → Int32 → Int32 → gM → Option (Int32 × gM) := lpK (B_Told_nextTaste_30 Ld1 K14 v2 v5) (fun _ _ _ _ => none)
set_option maxHeartbeats 4000000 in
set_option maxRecDepth 20000 in
theorem h_Told_nextTaste_30 {l : Launch} {ld : Nat} {Q : Option Value → gM → gL → gR → Prop} (hld : isLa ld) {Ld1 : Nat} (hLd1 : isLa Ld1) {q : Int32 × gM} {L : gL} (hQ : Q (some (.int q.1)) q.2 L (rf ld)) {K14 : Int32 → Int32 → Int32 → gM → Option (Int32 × gM)} {v2 : Int32} {v5 : Int32} (hK14 : ∀ (w3 : Int32) (w4 : Int32) (w5 : Int32) (M : gM), K14 w3 w4 w5 M = some q → Wp l y_Told_nextTaste (0, 0, 447) 447 0 0 14 [(0, .ref 383), (1, .ref Ld1), (2, .int v2), (3, .int w3), (4, .int w4), (5, .int w5)] [] M L (rf ld) Q) : ∀ (f : Nat) (v3 : Int32) (v4 : Int32) (v6 : Int32) (M : gM), H_Told_nextTaste_30 Ld1 K14 v2 v5 f v3 v4 v6 M = some q → Wp l y_Told_nextTaste (0, 0, 447) 447 0 0 30 [(0, .ref 383), (1, .ref Ld1), (2, .int v2), (3, .int v3), (4, .int v4), (5, .int v5), (6, .int v6)] [] M L (rf ld) Q := by
  intro f
  induction f with
  | zero => intro v3 v4 v6 M h; cases h
  | succ f hK30 =>
    intro v3 v4 v6 M h
    replace h : B_Told_nextTaste_30 Ld1 K14 v2 v5 (H_Told_nextTaste_30 Ld1 K14 v2 v5 f) v3 v4 v6 M = some q := h
    unfold B_Told_nextTaste_30 at h
    refine g_iload (pc1 := 32) d_Told_nextTaste_30 rfl 6 rfl ?_
    refine g_bipush (pc1 := 34) (v := 10) d_Told_nextTaste_32 rfl (by decide) ?_
    refine g_icmp_ge (pc1 := 37) (tgt := 74) d_Told_nextTaste_34 (by decide) rfl (fun c4 => ?_) (fun c4 => ?_)
    · replace h := itp h c4
      refine Wp.loc (lv' := [(0, .ref 383), (1, .ref Ld1), (2, .int v2), (3, .int v3), (4, .int v4), (5, .int v5)]) [0, 1, 2, 3, 4, 5] rfl ?_
      exact j_Told_nextTaste_74 hld hLd1 hQ hK14 h
    · replace h := itn h c4
      refine g_aload_n (pc1 := 38) d_Told_nextTaste_37 rfl 0 rfl ?_
      refine g_aload_n (pc1 := 39) d_Told_nextTaste_38 rfl 1 rfl ?_
      refine g_iload_n (pc1 := 40) d_Told_nextTaste_39 rfl 2 rfl ?_
      refine g_iload (pc1 := 42) d_Told_nextTaste_40 rfl 5 rfl ?_
      refine g_iload (pc1 := 44) d_Told_nextTaste_42 rfl 6 rfl ?_
      refine g_callV0 (pc1 := 47) (As := [.ref Ld1, .int v2, .int v5, .int v6]) (rest := []) d_Told_nextTaste_44 rfl mo_Told_85 mi_Told_mostAlike mv_Told_mostAlike rfl sh_383 (by decide) (by decide) rfl rfl (Nat.le_of_ble_eq_true rfl) ?_
      obtain ⟨r7, M8, hq6, h⟩ := bnd2 h
      refine f_Told_mostAlike hld hLd1 hq6 ?_
      dsimp only [psh]
      refine g_istore (pc1 := 49) (lv' := [(0, .ref 383), (1, .ref Ld1), (2, .int v2), (3, .int v3), (4, .int v4), (5, .int v5), (6, .int v6), (7, .int r7)]) d_Told_nextTaste_47 rfl (by decide) [1, 2, 3, 4, 5, 6, 7, 0] rfl ?_
      refine g_iload (pc1 := 51) d_Told_nextTaste_49 rfl 7 rfl ?_
      refine g_iload_n (pc1 := 52) d_Told_nextTaste_51 rfl 3 rfl ?_
      refine g_icmp_ge (pc1 := 55) (tgt := 68) d_Told_nextTaste_52 (by decide) rfl (fun c9 => ?_) (fun c9 => ?_)
      · replace h := itp h c9
        refine Wp.loc (lv' := [(0, .ref 383), (1, .ref Ld1), (2, .int v2), (3, .int v3), (4, .int v4), (5, .int v5), (6, .int v6)]) [0, 1, 2, 3, 4, 5, 6] rfl ?_
        exact j_Told_nextTaste_68 hld hLd1 hQ hK14 hK30 h
      · replace h := itn h c9
        refine g_iload (pc1 := 57) d_Told_nextTaste_55 rfl 7 rfl ?_
        refine g_istore_n (pc1 := 58) (lv' := [(0, .ref 383), (1, .ref Ld1), (2, .int v2), (3, .int r7), (4, .int v4), (5, .int v5), (6, .int v6), (7, .int r7)]) d_Told_nextTaste_57 rfl rfl (by decide) [1, 2, 3, 0, 4, 5, 6, 7] rfl ?_
        refine g_bipush (pc1 := 60) (v := 10) d_Told_nextTaste_58 rfl (by decide) ?_
        refine g_iload (pc1 := 62) d_Told_nextTaste_60 rfl 5 rfl ?_
        refine g_imul (pc1 := 63) d_Told_nextTaste_62 rfl ?_
        refine g_iload (pc1 := 65) d_Told_nextTaste_63 rfl 6 rfl ?_
        refine g_iadd (pc1 := 66) d_Told_nextTaste_65 rfl ?_
        refine Wp.lI h (fun x11 h => ?_)
        refine g_istore (pc1 := 68) (lv' := [(0, .ref 383), (1, .ref Ld1), (2, .int v2), (3, .int r7), (4, .int x11), (5, .int v5), (6, .int v6), (7, .int r7)]) d_Told_nextTaste_66 rfl (by decide) [1, 2, 3, 4, 0, 5, 6, 7] rfl ?_
        refine Wp.loc (lv' := [(0, .ref 383), (1, .ref Ld1), (2, .int v2), (3, .int r7), (4, .int x11), (5, .int v5), (6, .int v6)]) [0, 1, 2, 3, 4, 5, 6] rfl ?_
        exact j_Told_nextTaste_68 hld hLd1 hQ hK14 hK30 h
def B_Told_nextTaste_14 (Ld1 : Nat) (v2 : Int32) (K14 : Int32 → Int32 → Int32 → gM → Option (Int32 × gM)) : Int32 → Int32 → Int32 → gM → Option (Int32 × gM) := fun v3 v4 v5 M =>
  (if (M 383 7) ≤ 0 then some (v4, M) else (if 3 ≤ v5 then some (v4, M) else H_Told_nextTaste_30 Ld1 K14 v2 v5 FU v3 v4 0 M))
def H_Told_nextTaste_14 (Ld1 : Nat) (v2 : Int32) : Nat → Int32 → Int32 → Int32 → gM → Option (Int32 × gM) := lpK (B_Told_nextTaste_14 Ld1 v2) (fun _ _ _ _ => none)
set_option maxHeartbeats 4000000 in
set_option maxRecDepth 20000 in
theorem h_Told_nextTaste_14 {l : Launch} {ld : Nat} {Q : Option Value → gM → gL → gR → Prop} (hld : isLa ld) {Ld1 : Nat} (hLd1 : isLa Ld1) {q : Int32 × gM} {L : gL} (hQ : Q (some (.int q.1)) q.2 L (rf ld))  {v2 : Int32}  : ∀ (f : Nat) (v3 : Int32) (v4 : Int32) (v5 : Int32) (M : gM), H_Told_nextTaste_14 Ld1 v2 f v3 v4 v5 M = some q → Wp l y_Told_nextTaste (0, 0, 447) 447 0 0 14 [(0, .ref 383), (1, .ref Ld1), (2, .int v2), (3, .int v3), (4, .int v4), (5, .int v5)] [] M L (rf ld) Q := by
  intro f
  induction f with
  | zero => intro v3 v4 v5 M h; cases h
  | succ f hK14 =>
    intro v3 v4 v5 M h
    replace h : B_Told_nextTaste_14 Ld1 v2 (H_Told_nextTaste_14 Ld1 v2 f) v3 v4 v5 M = some q := h
    unfold B_Told_nextTaste_14 at h
    refine g_aload_n (pc1 := 15) d_Told_nextTaste_14 rfl 0 rfl ?_
    refine g_geti (pc1 := 18) d_Told_nextTaste_15 rfl ⟨_, fo_Told_41⟩ sh_383 (by decide) ?_
    refine g_if_le (pc1 := 21) (tgt := 80) d_Told_nextTaste_18 (by decide) rfl (fun c2 => ?_) (fun c2 => ?_)
    · replace h := itp h c2
      refine g_iload (pc1 := 82) d_Told_nextTaste_80 rfl 4 rfl ?_
      refine g_ireturn (Or.inl rfl) d_Told_nextTaste_82 rfl ?_
      cases h; exact hQ
    · replace h := itn h c2
      refine g_iload (pc1 := 23) d_Told_nextTaste_21 rfl 5 rfl ?_
      refine g_iconst (pc1 := 24) (v := 3) d_Told_nextTaste_23 rfl (by decide) ?_
      refine g_icmp_ge (pc1 := 27) (tgt := 80) d_Told_nextTaste_24 (by decide) rfl (fun c3 => ?_) (fun c3 => ?_)
      · replace h := itp h c3
        refine g_iload (pc1 := 82) d_Told_nextTaste_80 rfl 4 rfl ?_
        refine g_ireturn (Or.inl rfl) d_Told_nextTaste_82 rfl ?_
        cases h; exact hQ
      · replace h := itn h c3
        refine g_iconst (pc1 := 28) (v := 0) d_Told_nextTaste_27 rfl (by decide) ?_
        refine g_istore (pc1 := 30) (lv' := [(0, .ref 383), (1, .ref Ld1), (2, .int v2), (3, .int v3), (4, .int v4), (5, .int v5), (6, .int 0)]) d_Told_nextTaste_28 rfl (by decide) [1, 2, 3, 4, 5, 6, 0] rfl ?_
        exact h_Told_nextTaste_30 hld hLd1 hQ hK14 _ v3 v4 0 M h
def F_Told_nextTaste (Ld1 : Nat) (p2 : Int32) (M : gM) : Option (Int32 × gM) :=
  nmI ((M 383 7) + 1) (fun x1 => H_Told_nextTaste_14 Ld1 p2 FU x1 (-2) 0 M)
set_option maxHeartbeats 4000000 in
set_option maxRecDepth 20000 in
theorem f_Told_nextTaste {l : Launch} {ld : Nat} {M : gM} {L : gL} {Q : Option Value → gM → gL → gR → Prop} (hld : isLa ld) {Ld1 : Nat} {p2 : Int32} (hLd1 : isLa Ld1) {q : Int32 × gM} (h : F_Told_nextTaste Ld1 p2 M = some q) (hQ : Q (some (.int q.1)) q.2 L (rf ld)) : Tm l y_Told_nextTaste (0, 0, 447) 447 [.ref 383, .ref Ld1, .int p2] M L (rf ld) Q := by
  refine Tm.of (by decide) (Nat.le_of_ble_eq_true rfl) ?_
  show Wp l y_Told_nextTaste (0, 0, 447) 447 0 0 0 [(0, .ref 383), (1, .ref Ld1), (2, .int p2)] [] M L (rf ld) Q
  unfold F_Told_nextTaste at h
  refine g_aload_n (pc1 := 1) d_Told_nextTaste_0 rfl 0 rfl ?_
  refine g_geti (pc1 := 4) d_Told_nextTaste_1 rfl ⟨_, fo_Told_41⟩ sh_383 (by decide) ?_
  refine g_iconst (pc1 := 5) (v := 1) d_Told_nextTaste_4 rfl (by decide) ?_
  refine g_iadd (pc1 := 6) d_Told_nextTaste_5 rfl ?_
  refine Wp.lI h (fun x1 h => ?_)
  refine g_istore_n (pc1 := 7) (lv' := [(0, .ref 383), (1, .ref Ld1), (2, .int p2), (3, .int x1)]) d_Told_nextTaste_6 rfl rfl (by decide) [1, 2, 3, 0] rfl ?_
  refine g_bipush (pc1 := 9) (v := (-2)) d_Told_nextTaste_7 rfl (by decide) ?_
  refine g_istore (pc1 := 11) (lv' := [(0, .ref 383), (1, .ref Ld1), (2, .int p2), (3, .int x1), (4, .int (-2))]) d_Told_nextTaste_9 rfl (by decide) [1, 2, 3, 4, 0] rfl ?_
  refine g_iconst (pc1 := 12) (v := 0) d_Told_nextTaste_11 rfl (by decide) ?_
  refine g_istore (pc1 := 14) (lv' := [(0, .ref 383), (1, .ref Ld1), (2, .int p2), (3, .int x1), (4, .int (-2)), (5, .int 0)]) d_Told_nextTaste_12 rfl (by decide) [1, 2, 3, 4, 5, 0] rfl ?_
  exact h_Told_nextTaste_14 hld hLd1 hQ  _ x1 (-2) 0 M h

def F_Main_blame (ld : Nat) (p1 : Int32) (M : gM) : Option (Int32 × gM) :=
  bI (F_Main_isOne p1 ((M 383 3) + 1)) (fun r2 => (if r2 = 0 then some ((-1), M) else bI (F_Told_gather ld (M 64 0) p1 M) (fun M5 => some ((M5 383 7), M5))))
set_option maxHeartbeats 4000000 in
set_option maxRecDepth 20000 in
theorem f_Main_blame {l : Launch} {ld : Nat} {M : gM} {L : gL} {Q : Option Value → gM → gL → gR → Prop} (hld : isLa ld) {p1 : Int32}  {q : Int32 × gM} (h : F_Main_blame ld p1 M = some q) (hQ : Q (some (.int q.1)) q.2 L (rf ld)) : Tm l y_Main_blame (0, 0, 447) 447 [.ref 0, .int p1] M L (rf ld) Q := by
  refine Tm.of (by decide) (Nat.le_of_ble_eq_true rfl) ?_
  show Wp l y_Main_blame (0, 0, 447) 447 0 0 0 [(0, .ref 0), (1, .int p1)] [] M L (rf ld) Q
  unfold F_Main_blame at h
  refine g_iload_n (pc1 := 1) d_Main_blame_0 rfl 1 rfl ?_
  refine g_aload_n (pc1 := 2) d_Main_blame_1 rfl 0 rfl ?_
  refine g_getr (pc1 := 5) d_Main_blame_2 rfl ⟨_, fo_Main_60⟩ sh_0 (by decide) (rf_0_8 ld) ?_
  refine g_geti (pc1 := 8) d_Main_blame_5 rfl ⟨_, fo_Main_275⟩ sh_383 (by decide) ?_
  refine g_iconst (pc1 := 9) (v := 1) d_Main_blame_8 rfl (by decide) ?_
  refine g_iadd (pc1 := 10) d_Main_blame_9 rfl ?_
  refine g_callS0 (pc1 := 13) (As := [.int p1, .int ((M 383 3) + 1)]) (rest := []) d_Main_blame_10 rfl mo_Main_112 ms_Main_isOne (by decide) rfl rfl (Nat.le_of_ble_eq_true rfl) ?_
  obtain ⟨r2, hq1, h⟩ := bnd h
  refine f_Main_isOne hld  hq1 ?_
  dsimp only [psh]
  refine g_if_ne (pc1 := 16) (tgt := 18) d_Main_blame_13 (by decide) rfl (fun c3 => ?_) (fun c3 => ?_)
  · replace h := itn h c3
    refine g_aload_n (pc1 := 19) d_Main_blame_18 rfl 0 rfl ?_
    refine g_getr (pc1 := 22) d_Main_blame_19 rfl ⟨_, fo_Main_60⟩ sh_0 (by decide) (rf_0_8 ld) ?_
    refine g_aload_n (pc1 := 23) d_Main_blame_22 rfl 0 rfl ?_
    refine g_getr (pc1 := 26) d_Main_blame_23 rfl ⟨_, fo_Main_26⟩ sh_0 (by decide) (rf_0_2 ld) ?_
    refine g_aload_n (pc1 := 27) d_Main_blame_26 rfl 0 rfl ?_
    refine g_getr (pc1 := 30) d_Main_blame_27 rfl ⟨_, fo_Main_36⟩ sh_0 (by decide) (rf_0_4 ld) ?_
    refine g_geti (pc1 := 33) d_Main_blame_30 rfl ⟨_, fo_Main_144⟩ (shSt_0 isSt_64) (ltSt_0 isSt_64) ?_
    refine g_iload_n (pc1 := 34) d_Main_blame_33 rfl 1 rfl ?_
    refine g_callV0 (pc1 := 37) (As := [.ref ld, .int (M 64 0), .int p1]) (rest := []) d_Main_blame_34 rfl mo_Main_278 mi_Told_gather mv_Told_gather rfl sh_383 (by decide) (by decide) rfl rfl (Nat.le_of_ble_eq_true rfl) ?_
    obtain ⟨M5, hq4, h⟩ := bnd h
    refine f_Told_gather hld hld hq4 ?_
    dsimp only [psh]
    refine g_aload_n (pc1 := 38) d_Main_blame_37 rfl 0 rfl ?_
    refine g_getr (pc1 := 41) d_Main_blame_38 rfl ⟨_, fo_Main_60⟩ sh_0 (by decide) (rf_0_8 ld) ?_
    refine g_geti (pc1 := 44) d_Main_blame_41 rfl ⟨_, fo_Main_282⟩ sh_383 (by decide) ?_
    refine g_ireturn (Or.inl rfl) d_Main_blame_44 rfl ?_
    cases h; exact hQ
  · replace h := itp h c3
    refine g_iconst (pc1 := 17) (v := (-1)) d_Main_blame_16 rfl (by decide) ?_
    refine g_ireturn (Or.inl rfl) d_Main_blame_17 rfl ?_
    cases h; exact hQ

def F_Main_cook (ld : Nat) (p1 : Int32) (M : gM) : Option (Int32 × gM) :=
  bI (F_Main_isOne p1 (M ld 1)) (fun r2 => (if r2 = 0 then some ((-1), M) else bI (F_State_inStore 64 ld p1 M) (fun r5 => (if r5 = 0 then some ((-3), M) else bI (F_Past_keep 64 M) (fun M8 => bI2 (F_State_cookOne 64 ld p1 M8) (fun r10 M11 => some (r10, M11)))))))
set_option maxHeartbeats 4000000 in
set_option maxRecDepth 20000 in
theorem f_Main_cook {l : Launch} {ld : Nat} {M : gM} {L : gL} {Q : Option Value → gM → gL → gR → Prop} (hld : isLa ld) {p1 : Int32}  {q : Int32 × gM} (h : F_Main_cook ld p1 M = some q) (hQ : Q (some (.int q.1)) q.2 L (rf ld)) : Tm l y_Main_cook (0, 0, 447) 447 [.ref 0, .int p1] M L (rf ld) Q := by
  refine Tm.of (by decide) (Nat.le_of_ble_eq_true rfl) ?_
  show Wp l y_Main_cook (0, 0, 447) 447 0 0 0 [(0, .ref 0), (1, .int p1)] [] M L (rf ld) Q
  unfold F_Main_cook at h
  refine g_iload_n (pc1 := 1) d_Main_cook_0 rfl 1 rfl ?_
  refine g_aload_n (pc1 := 2) d_Main_cook_1 rfl 0 rfl ?_
  refine g_getr (pc1 := 5) d_Main_cook_2 rfl ⟨_, fo_Main_26⟩ sh_0 (by decide) (rf_0_2 ld) ?_
  refine g_geti (pc1 := 8) d_Main_cook_5 rfl ⟨_, fo_Main_131⟩ (shLa_0 hld) (ltLa_0 hld) ?_
  refine g_callS0 (pc1 := 11) (As := [.int p1, .int (M ld 1)]) (rest := []) d_Main_cook_8 rfl mo_Main_112 ms_Main_isOne (by decide) rfl rfl (Nat.le_of_ble_eq_true rfl) ?_
  obtain ⟨r2, hq1, h⟩ := bnd h
  refine f_Main_isOne hld  hq1 ?_
  dsimp only [psh]
  refine g_if_ne (pc1 := 14) (tgt := 16) d_Main_cook_11 (by decide) rfl (fun c3 => ?_) (fun c3 => ?_)
  · replace h := itn h c3
    refine g_aload_n (pc1 := 17) d_Main_cook_16 rfl 0 rfl ?_
    refine g_getr (pc1 := 20) d_Main_cook_17 rfl ⟨_, fo_Main_36⟩ sh_0 (by decide) (rf_0_4 ld) ?_
    refine g_aload_n (pc1 := 21) d_Main_cook_20 rfl 0 rfl ?_
    refine g_getr (pc1 := 24) d_Main_cook_21 rfl ⟨_, fo_Main_26⟩ sh_0 (by decide) (rf_0_2 ld) ?_
    refine g_iload_n (pc1 := 25) d_Main_cook_24 rfl 1 rfl ?_
    refine g_callV0 (pc1 := 28) (As := [.ref ld, .int p1]) (rest := []) d_Main_cook_25 rfl mo_Main_196 mi_State_inStore mv_State_inStore rfl (shSt_0 isSt_64) (ltSt_0 isSt_64) (by decide) rfl rfl (Nat.le_of_ble_eq_true rfl) ?_
    obtain ⟨r5, hq4, h⟩ := bnd h
    refine f_State_inStore hld isSt_64 hld hq4 ?_
    dsimp only [psh]
    refine g_if_ne (pc1 := 31) (tgt := 34) d_Main_cook_28 (by decide) rfl (fun c6 => ?_) (fun c6 => ?_)
    · replace h := itn h c6
      refine g_aload_n (pc1 := 35) d_Main_cook_34 rfl 0 rfl ?_
      refine g_getr (pc1 := 38) d_Main_cook_35 rfl ⟨_, fo_Main_46⟩ sh_0 (by decide) (rf_0_6 ld) ?_
      refine g_aload_n (pc1 := 39) d_Main_cook_38 rfl 0 rfl ?_
      refine g_getr (pc1 := 42) d_Main_cook_39 rfl ⟨_, fo_Main_36⟩ sh_0 (by decide) (rf_0_4 ld) ?_
      refine g_callV0 (pc1 := 45) (As := [.ref 64]) (rest := []) d_Main_cook_42 rfl mo_Main_200 mi_Past_keep mv_Past_keep rfl sh_78 (by decide) (by decide) rfl rfl (Nat.le_of_ble_eq_true rfl) ?_
      obtain ⟨M8, hq7, h⟩ := bnd h
      refine f_Past_keep hld isSt_64 hq7 ?_
      dsimp only [psh]
      refine g_aload_n (pc1 := 46) d_Main_cook_45 rfl 0 rfl ?_
      refine g_getr (pc1 := 49) d_Main_cook_46 rfl ⟨_, fo_Main_36⟩ sh_0 (by decide) (rf_0_4 ld) ?_
      refine g_aload_n (pc1 := 50) d_Main_cook_49 rfl 0 rfl ?_
      refine g_getr (pc1 := 53) d_Main_cook_50 rfl ⟨_, fo_Main_26⟩ sh_0 (by decide) (rf_0_2 ld) ?_
      refine g_iload_n (pc1 := 54) d_Main_cook_53 rfl 1 rfl ?_
      refine g_callV0 (pc1 := 57) (As := [.ref ld, .int p1]) (rest := []) d_Main_cook_54 rfl mo_Main_204 mi_State_cookOne mv_State_cookOne rfl (shSt_0 isSt_64) (ltSt_0 isSt_64) (by decide) rfl rfl (Nat.le_of_ble_eq_true rfl) ?_
      obtain ⟨r10, M11, hq9, h⟩ := bnd2 h
      refine f_State_cookOne hld isSt_64 hld hq9 ?_
      dsimp only [psh]
      refine g_ireturn (Or.inl rfl) d_Main_cook_57 rfl ?_
      cases h; exact hQ
    · replace h := itp h c6
      refine g_bipush (pc1 := 33) (v := (-3)) d_Main_cook_31 rfl (by decide) ?_
      refine g_ireturn (Or.inl rfl) d_Main_cook_33 rfl ?_
      cases h; exact hQ
  · replace h := itp h c3
    refine g_iconst (pc1 := 15) (v := (-1)) d_Main_cook_14 rfl (by decide) ?_
    refine g_ireturn (Or.inl rfl) d_Main_cook_15 rfl ?_
    cases h; exact hQ

def F_Main_deed (ld : Nat) (p1 : Int32) (p2 : Int32) (M : gM) : Option (Int32 × gM) :=
  bI (F_Main_isOne p1 (M ld 3)) (fun r2 => (if r2 = 0 then some ((-1), M) else (if p2 = 0 then bI (F_Main_at (ld + 7) 6 p1 M) (fun r6 => some (r6, M)) else (if p2 = 1 then bI (F_Main_at (ld + 8) 6 p1 M) (fun r9 => some (r9, M)) else (if p2 = 2 then bI2 (F_Main_guestsFreeTo ld p1 M) (fun r12 M13 => some (r12, M13)) else some ((-1), M))))))
set_option maxHeartbeats 4000000 in
set_option maxRecDepth 20000 in
theorem f_Main_deed {l : Launch} {ld : Nat} {M : gM} {L : gL} {Q : Option Value → gM → gL → gR → Prop} (hld : isLa ld) {p1 : Int32} {p2 : Int32}  {q : Int32 × gM} (h : F_Main_deed ld p1 p2 M = some q) (hQ : Q (some (.int q.1)) q.2 L (rf ld)) : Tm l y_Main_deed (0, 0, 447) 447 [.ref 0, .int p1, .int p2] M L (rf ld) Q := by
  refine Tm.of (by decide) (Nat.le_of_ble_eq_true rfl) ?_
  show Wp l y_Main_deed (0, 0, 447) 447 0 0 0 [(0, .ref 0), (1, .int p1), (2, .int p2)] [] M L (rf ld) Q
  unfold F_Main_deed at h
  refine g_iload_n (pc1 := 1) d_Main_deed_0 rfl 1 rfl ?_
  refine g_aload_n (pc1 := 2) d_Main_deed_1 rfl 0 rfl ?_
  refine g_getr (pc1 := 5) d_Main_deed_2 rfl ⟨_, fo_Main_26⟩ sh_0 (by decide) (rf_0_2 ld) ?_
  refine g_geti (pc1 := 8) d_Main_deed_5 rfl ⟨_, fo_Main_177⟩ (shLa_0 hld) (ltLa_0 hld) ?_
  refine g_callS0 (pc1 := 11) (As := [.int p1, .int (M ld 3)]) (rest := []) d_Main_deed_8 rfl mo_Main_112 ms_Main_isOne (by decide) rfl rfl (Nat.le_of_ble_eq_true rfl) ?_
  obtain ⟨r2, hq1, h⟩ := bnd h
  refine f_Main_isOne hld  hq1 ?_
  dsimp only [psh]
  refine g_if_ne (pc1 := 14) (tgt := 16) d_Main_deed_11 (by decide) rfl (fun c3 => ?_) (fun c3 => ?_)
  · replace h := itn h c3
    refine g_iload_n (pc1 := 17) d_Main_deed_16 rfl 2 rfl ?_
    by_cases c4 : p2 = 0
    · replace h := itp h c4
      refine g_tabK (tgt := 44) (off := 27) d_Main_deed_17 c4 (by decide) (by decide) (by decide) (by decide) ?_
      refine g_aload_n (pc1 := 45) d_Main_deed_44 rfl 0 rfl ?_
      refine g_getr (pc1 := 48) d_Main_deed_45 rfl ⟨_, fo_Main_26⟩ sh_0 (by decide) (rf_0_2 ld) ?_
      refine g_getr (pc1 := 51) d_Main_deed_48 rfl ⟨_, fo_Main_180⟩ (shLa_0 hld) (ltLa_0 hld) (rfLa_11 ld hld) ?_
      refine g_iload_n (pc1 := 52) d_Main_deed_51 rfl 1 rfl ?_
      refine g_callS0 (pc1 := 55) (As := [.ref (ld + 7), .int p1]) (rest := []) d_Main_deed_52 rfl mo_Main_120 ms_Main_at (by decide) rfl rfl (Nat.le_of_ble_eq_true rfl) ?_
      obtain ⟨r6, hq5, h⟩ := bnd h
      refine f_Main_at hld (shLa_7 hld) (ltLa_7 hld) (by decide) hq5 ?_
      dsimp only [psh]
      refine g_ireturn (Or.inl rfl) d_Main_deed_55 rfl ?_
      cases h; exact hQ
    replace h := itn h c4
    by_cases c7 : p2 = 1
    · replace h := itp h c7
      refine g_tabK (tgt := 56) (off := 39) d_Main_deed_17 c7 (by decide) (by decide) (by decide) (by decide) ?_
      refine g_aload_n (pc1 := 57) d_Main_deed_56 rfl 0 rfl ?_
      refine g_getr (pc1 := 60) d_Main_deed_57 rfl ⟨_, fo_Main_26⟩ sh_0 (by decide) (rf_0_2 ld) ?_
      refine g_getr (pc1 := 63) d_Main_deed_60 rfl ⟨_, fo_Main_183⟩ (shLa_0 hld) (ltLa_0 hld) (rfLa_12 ld hld) ?_
      refine g_iload_n (pc1 := 64) d_Main_deed_63 rfl 1 rfl ?_
      refine g_callS0 (pc1 := 67) (As := [.ref (ld + 8), .int p1]) (rest := []) d_Main_deed_64 rfl mo_Main_120 ms_Main_at (by decide) rfl rfl (Nat.le_of_ble_eq_true rfl) ?_
      obtain ⟨r9, hq8, h⟩ := bnd h
      refine f_Main_at hld (shLa_8 hld) (ltLa_8 hld) (by decide) hq8 ?_
      dsimp only [psh]
      refine g_ireturn (Or.inl rfl) d_Main_deed_67 rfl ?_
      cases h; exact hQ
    replace h := itn h c7
    by_cases c10 : p2 = 2
    · replace h := itp h c10
      refine g_tabK (tgt := 68) (off := 51) d_Main_deed_17 c10 (by decide) (by decide) (by decide) (by decide) ?_
      refine g_aload_n (pc1 := 69) d_Main_deed_68 rfl 0 rfl ?_
      refine g_iload_n (pc1 := 70) d_Main_deed_69 rfl 1 rfl ?_
      refine g_callV0 (pc1 := 73) (As := [.int p1]) (rest := []) d_Main_deed_70 rfl mo_Main_186 mi_Main_guestsFreeTo mv_Main_guestsFreeTo rfl sh_0 (by decide) (by decide) rfl rfl (Nat.le_of_ble_eq_true rfl) ?_
      obtain ⟨r12, M13, hq11, h⟩ := bnd2 h
      refine f_Main_guestsFreeTo hld  hq11 ?_
      dsimp only [psh]
      refine g_ireturn (Or.inl rfl) d_Main_deed_73 rfl ?_
      cases h; exact hQ
    replace h := itn h c10
    refine g_tabOut (tgt := 74) d_Main_deed_17 (by
      have nc4 := neT (a := 0) c4 (by decide)
      have nc7 := neT (a := 1) c7 (by decide)
      have nc10 := neT (a := 2) c10 (by decide)
      omega) (by decide) ?_
    refine g_iconst (pc1 := 75) (v := (-1)) d_Main_deed_74 rfl (by decide) ?_
    refine g_ireturn (Or.inl rfl) d_Main_deed_75 rfl ?_
    cases h; exact hQ
  · replace h := itp h c3
    refine g_iconst (pc1 := 15) (v := (-1)) d_Main_deed_14 rfl (by decide) ?_
    refine g_ireturn (Or.inl rfl) d_Main_deed_15 rfl ?_
    cases h; exact hQ

def J_Main_feud_100 (ld : Nat) (K55 : Int32 → Int32 → gM → Option (Int32 × gM)) (v1 : Int32) (v2 : Int32) (v3 : Int32) (v4 : Int32) (v5 : Int32) (M : gM) : Option (Int32 × gM) :=
  nmI (v5 + 1) (fun x20 => K55 v4 x20 M)
set_option maxHeartbeats 4000000 in
set_option maxRecDepth 20000 in
theorem j_Main_feud_100 {l : Launch} {ld : Nat} {Q : Option Value → gM → gL → gR → Prop} (hld : isLa ld)   {q : Int32 × gM} {M : gM} {L : gL} (hQ : Q (some (.int q.1)) q.2 L (rf ld)) {K55 : Int32 → Int32 → gM → Option (Int32 × gM)} {v1 : Int32} {v2 : Int32} {v3 : Int32} {v4 : Int32} {v5 : Int32} (hK55 : ∀ (w4 : Int32) (w5 : Int32) (M : gM), K55 w4 w5 M = some q → Wp l y_Main_feud (0, 0, 447) 447 0 0 55 [(0, .ref 0), (1, .int v1), (2, .int v2), (3, .int v3), (4, .int w4), (5, .int w5)] [] M L (rf ld) Q) (h : J_Main_feud_100 ld K55 v1 v2 v3 v4 v5 M = some q) : Wp l y_Main_feud (0, 0, 447) 447 0 0 100 [(0, .ref 0), (1, .int v1), (2, .int v2), (3, .int v3), (4, .int v4), (5, .int v5)] [] M L (rf ld) Q := by
  unfold J_Main_feud_100 at h
  obtain ⟨x20, ex20, h⟩ := ltI h
  refine g_iinc (pc1 := 103) (v := x20) (lv' := [(0, .ref 0), (1, .int v1), (2, .int v2), (3, .int v3), (4, .int v4), (5, .int x20)]) d_Main_feud_100 rfl 5 rfl (by rw [ex20]; rfl) (by decide) [1, 2, 3, 4, 5, 0] rfl ?_
  refine g_goto (tgt := 55) d_Main_feud_103 (by decide) ?_
  exact hK55 v4 x20 M h
def B_Main_feud_55 (ld : Nat) (v1 : Int32) (v2 : Int32) (v3 : Int32) (K55 : Int32 → Int32 → gM → Option (Int32 × gM)) : Int32 → Int32 → gM → Option (Int32 × gM) := fun v4 v5 M =>
  (if (M ld 1) ≤ v5 then some (v4, M) else bI2 (F_Main_freeBehind ld v1 v5 M) (fun r13 M14 => bI (F_Main_hasBit r13 v2) (fun r16 => bI (F_Main_hasBit r13 v3) (fun r18 => (if r16 = r18 then J_Main_feud_100 ld K55 v1 v2 v3 v4 v5 M14 else nmI (v4 ||| (1 <<< (v5 &&& 31))) (fun x21 => J_Main_feud_100 ld K55 v1 v2 v3 x21 v5 M14))))))
def H_Main_feud_55 (ld : Nat) (v1 : Int32) (v2 : Int32) (v3 : Int32) : Nat → Int32 → Int32 → gM → Option (Int32 × gM) := lpK (B_Main_feud_55 ld v1 v2 v3) (fun _ _ _ => none)
set_option maxHeartbeats 4000000 in
set_option maxRecDepth 20000 in
theorem h_Main_feud_55 {l : Launch} {ld : Nat} {Q : Option Value → gM → gL → gR → Prop} (hld : isLa ld)   {q : Int32 × gM} {L : gL} (hQ : Q (some (.int q.1)) q.2 L (rf ld))  {v1 : Int32} {v2 : Int32} {v3 : Int32}  : ∀ (f : Nat) (v4 : Int32) (v5 : Int32) (M : gM), H_Main_feud_55 ld v1 v2 v3 f v4 v5 M = some q → Wp l y_Main_feud (0, 0, 447) 447 0 0 55 [(0, .ref 0), (1, .int v1), (2, .int v2), (3, .int v3), (4, .int v4), (5, .int v5)] [] M L (rf ld) Q := by
  intro f
  induction f with
  | zero => intro v4 v5 M h; cases h
  | succ f hK55 =>
    intro v4 v5 M h
    replace h : B_Main_feud_55 ld v1 v2 v3 (H_Main_feud_55 ld v1 v2 v3 f) v4 v5 M = some q := h
    unfold B_Main_feud_55 at h
    refine g_iload (pc1 := 57) d_Main_feud_55 rfl 5 rfl ?_
    refine g_aload_n (pc1 := 58) d_Main_feud_57 rfl 0 rfl ?_
    refine g_getr (pc1 := 61) d_Main_feud_58 rfl ⟨_, fo_Main_26⟩ sh_0 (by decide) (rf_0_2 ld) ?_
    refine g_geti (pc1 := 64) d_Main_feud_61 rfl ⟨_, fo_Main_131⟩ (shLa_0 hld) (ltLa_0 hld) ?_
    refine g_icmp_ge (pc1 := 67) (tgt := 106) d_Main_feud_64 (by decide) rfl (fun c11 => ?_) (fun c11 => ?_)
    · replace h := itp h c11
      refine g_iload (pc1 := 108) d_Main_feud_106 rfl 4 rfl ?_
      refine g_ireturn (Or.inl rfl) d_Main_feud_108 rfl ?_
      cases h; exact hQ
    · replace h := itn h c11
      refine g_aload_n (pc1 := 68) d_Main_feud_67 rfl 0 rfl ?_
      refine g_iload_n (pc1 := 69) d_Main_feud_68 rfl 1 rfl ?_
      refine g_iload (pc1 := 71) d_Main_feud_69 rfl 5 rfl ?_
      refine g_callV0 (pc1 := 74) (As := [.int v1, .int v5]) (rest := []) d_Main_feud_71 rfl mo_Main_246 mi_Main_freeBehind mv_Main_freeBehind rfl sh_0 (by decide) (by decide) rfl rfl (Nat.le_of_ble_eq_true rfl) ?_
      obtain ⟨r13, M14, hq12, h⟩ := bnd2 h
      refine f_Main_freeBehind hld  hq12 ?_
      dsimp only [psh]
      refine g_istore (pc1 := 76) (lv' := [(0, .ref 0), (1, .int v1), (2, .int v2), (3, .int v3), (4, .int v4), (5, .int v5), (6, .int r13)]) d_Main_feud_74 rfl (by decide) [1, 2, 3, 4, 5, 6, 0] rfl ?_
      refine g_iload (pc1 := 78) d_Main_feud_76 rfl 6 rfl ?_
      refine g_iload_n (pc1 := 79) d_Main_feud_78 rfl 2 rfl ?_
      refine g_callS0 (pc1 := 82) (As := [.int r13, .int v2]) (rest := []) d_Main_feud_79 rfl mo_Main_193 ms_Main_hasBit (by decide) rfl rfl (Nat.le_of_ble_eq_true rfl) ?_
      obtain ⟨r16, hq15, h⟩ := bnd h
      refine f_Main_hasBit hld  hq15 ?_
      dsimp only [psh]
      refine g_iload (pc1 := 84) d_Main_feud_82 rfl 6 rfl ?_
      refine g_iload_n (pc1 := 85) d_Main_feud_84 rfl 3 rfl ?_
      refine g_callS0 (pc1 := 88) (As := [.int r13, .int v3]) (rest := [.int r16]) d_Main_feud_85 rfl mo_Main_193 ms_Main_hasBit (by decide) rfl rfl (Nat.le_of_ble_eq_true rfl) ?_
      obtain ⟨r18, hq17, h⟩ := bnd h
      refine f_Main_hasBit hld  hq17 ?_
      dsimp only [psh]
      refine g_icmp_eq (pc1 := 91) (tgt := 100) d_Main_feud_88 (by decide) rfl (fun c19 => ?_) (fun c19 => ?_)
      · replace h := itp h c19
        refine Wp.loc (lv' := [(0, .ref 0), (1, .int v1), (2, .int v2), (3, .int v3), (4, .int v4), (5, .int v5)]) [0, 1, 2, 3, 4, 5] rfl ?_
        exact j_Main_feud_100 hld  hQ hK55 h
      · replace h := itn h c19
        refine g_iload (pc1 := 93) d_Main_feud_91 rfl 4 rfl ?_
        refine g_iconst (pc1 := 94) (v := 1) d_Main_feud_93 rfl (by decide) ?_
        refine g_iload (pc1 := 96) d_Main_feud_94 rfl 5 rfl ?_
        refine g_ishl (pc1 := 97) d_Main_feud_96 rfl ?_
        refine g_ior (pc1 := 98) d_Main_feud_97 rfl ?_
        refine Wp.lI h (fun x21 h => ?_)
        refine g_istore (pc1 := 100) (lv' := [(0, .ref 0), (1, .int v1), (2, .int v2), (3, .int v3), (4, .int x21), (5, .int v5), (6, .int r13)]) d_Main_feud_98 rfl (by decide) [1, 2, 3, 4, 0, 5, 6] rfl ?_
        refine Wp.loc (lv' := [(0, .ref 0), (1, .int v1), (2, .int v2), (3, .int v3), (4, .int x21), (5, .int v5)]) [0, 1, 2, 3, 4, 5] rfl ?_
        exact j_Main_feud_100 hld  hQ hK55 h
def F_Main_feud (ld : Nat) (p1 : Int32) (p2 : Int32) (p3 : Int32) (M : gM) : Option (Int32 × gM) :=
  bI (F_Main_isOne p1 (M ld 2)) (fun r2 => (if r2 = 0 then some ((-1), M) else bI (F_Main_isOne p2 (M ld 3)) (fun r5 => (if r5 = 0 then some ((-1), M) else bI (F_Main_isOne p3 (M ld 3)) (fun r8 => (if r8 = 0 then some ((-1), M) else (if p2 = p3 then some ((-1), M) else H_Main_feud_55 ld p1 p2 p3 FU 0 0 M)))))))
set_option maxHeartbeats 4000000 in
set_option maxRecDepth 20000 in
theorem f_Main_feud {l : Launch} {ld : Nat} {M : gM} {L : gL} {Q : Option Value → gM → gL → gR → Prop} (hld : isLa ld) {p1 : Int32} {p2 : Int32} {p3 : Int32}  {q : Int32 × gM} (h : F_Main_feud ld p1 p2 p3 M = some q) (hQ : Q (some (.int q.1)) q.2 L (rf ld)) : Tm l y_Main_feud (0, 0, 447) 447 [.ref 0, .int p1, .int p2, .int p3] M L (rf ld) Q := by
  refine Tm.of (by decide) (Nat.le_of_ble_eq_true rfl) ?_
  show Wp l y_Main_feud (0, 0, 447) 447 0 0 0 [(0, .ref 0), (1, .int p1), (2, .int p2), (3, .int p3)] [] M L (rf ld) Q
  unfold F_Main_feud at h
  refine g_iload_n (pc1 := 1) d_Main_feud_0 rfl 1 rfl ?_
  refine g_aload_n (pc1 := 2) d_Main_feud_1 rfl 0 rfl ?_
  refine g_getr (pc1 := 5) d_Main_feud_2 rfl ⟨_, fo_Main_26⟩ sh_0 (by decide) (rf_0_2 ld) ?_
  refine g_geti (pc1 := 8) d_Main_feud_5 rfl ⟨_, fo_Main_157⟩ (shLa_0 hld) (ltLa_0 hld) ?_
  refine g_callS0 (pc1 := 11) (As := [.int p1, .int (M ld 2)]) (rest := []) d_Main_feud_8 rfl mo_Main_112 ms_Main_isOne (by decide) rfl rfl (Nat.le_of_ble_eq_true rfl) ?_
  obtain ⟨r2, hq1, h⟩ := bnd h
  refine f_Main_isOne hld  hq1 ?_
  dsimp only [psh]
  refine g_if_eq (pc1 := 14) (tgt := 47) d_Main_feud_11 (by decide) rfl (fun c3 => ?_) (fun c3 => ?_)
  · replace h := itp h c3
    refine g_iconst (pc1 := 48) (v := (-1)) d_Main_feud_47 rfl (by decide) ?_
    refine g_ireturn (Or.inl rfl) d_Main_feud_48 rfl ?_
    cases h; exact hQ
  · replace h := itn h c3
    refine g_iload_n (pc1 := 15) d_Main_feud_14 rfl 2 rfl ?_
    refine g_aload_n (pc1 := 16) d_Main_feud_15 rfl 0 rfl ?_
    refine g_getr (pc1 := 19) d_Main_feud_16 rfl ⟨_, fo_Main_26⟩ sh_0 (by decide) (rf_0_2 ld) ?_
    refine g_geti (pc1 := 22) d_Main_feud_19 rfl ⟨_, fo_Main_177⟩ (shLa_0 hld) (ltLa_0 hld) ?_
    refine g_callS0 (pc1 := 25) (As := [.int p2, .int (M ld 3)]) (rest := []) d_Main_feud_22 rfl mo_Main_112 ms_Main_isOne (by decide) rfl rfl (Nat.le_of_ble_eq_true rfl) ?_
    obtain ⟨r5, hq4, h⟩ := bnd h
    refine f_Main_isOne hld  hq4 ?_
    dsimp only [psh]
    refine g_if_eq (pc1 := 28) (tgt := 47) d_Main_feud_25 (by decide) rfl (fun c6 => ?_) (fun c6 => ?_)
    · replace h := itp h c6
      refine g_iconst (pc1 := 48) (v := (-1)) d_Main_feud_47 rfl (by decide) ?_
      refine g_ireturn (Or.inl rfl) d_Main_feud_48 rfl ?_
      cases h; exact hQ
    · replace h := itn h c6
      refine g_iload_n (pc1 := 29) d_Main_feud_28 rfl 3 rfl ?_
      refine g_aload_n (pc1 := 30) d_Main_feud_29 rfl 0 rfl ?_
      refine g_getr (pc1 := 33) d_Main_feud_30 rfl ⟨_, fo_Main_26⟩ sh_0 (by decide) (rf_0_2 ld) ?_
      refine g_geti (pc1 := 36) d_Main_feud_33 rfl ⟨_, fo_Main_177⟩ (shLa_0 hld) (ltLa_0 hld) ?_
      refine g_callS0 (pc1 := 39) (As := [.int p3, .int (M ld 3)]) (rest := []) d_Main_feud_36 rfl mo_Main_112 ms_Main_isOne (by decide) rfl rfl (Nat.le_of_ble_eq_true rfl) ?_
      obtain ⟨r8, hq7, h⟩ := bnd h
      refine f_Main_isOne hld  hq7 ?_
      dsimp only [psh]
      refine g_if_eq (pc1 := 42) (tgt := 47) d_Main_feud_39 (by decide) rfl (fun c9 => ?_) (fun c9 => ?_)
      · replace h := itp h c9
        refine g_iconst (pc1 := 48) (v := (-1)) d_Main_feud_47 rfl (by decide) ?_
        refine g_ireturn (Or.inl rfl) d_Main_feud_48 rfl ?_
        cases h; exact hQ
      · replace h := itn h c9
        refine g_iload_n (pc1 := 43) d_Main_feud_42 rfl 2 rfl ?_
        refine g_iload_n (pc1 := 44) d_Main_feud_43 rfl 3 rfl ?_
        refine g_icmp_ne (pc1 := 47) (tgt := 49) d_Main_feud_44 (by decide) rfl (fun c10 => ?_) (fun c10 => ?_)
        · replace h := itn h c10
          refine g_iconst (pc1 := 50) (v := 0) d_Main_feud_49 rfl (by decide) ?_
          refine g_istore (pc1 := 52) (lv' := [(0, .ref 0), (1, .int p1), (2, .int p2), (3, .int p3), (4, .int 0)]) d_Main_feud_50 rfl (by decide) [1, 2, 3, 4, 0] rfl ?_
          refine g_iconst (pc1 := 53) (v := 0) d_Main_feud_52 rfl (by decide) ?_
          refine g_istore (pc1 := 55) (lv' := [(0, .ref 0), (1, .int p1), (2, .int p2), (3, .int p3), (4, .int 0), (5, .int 0)]) d_Main_feud_53 rfl (by decide) [1, 2, 3, 4, 5, 0] rfl ?_
          exact h_Main_feud_55 hld  hQ  _ 0 0 M h
        · replace h := itp h c10
          refine g_iconst (pc1 := 48) (v := (-1)) d_Main_feud_47 rfl (by decide) ?_
          refine g_ireturn (Or.inl rfl) d_Main_feud_48 rfl ?_
          cases h; exact hQ

def J_Main_freestDish_43 (ld : Nat) (K7 : Int32 → Int32 → Int32 → gM → Option (Int32 × gM)) (v1 : Int32) (v2 : Int32) (v3 : Int32) (v4 : Int32) (M : gM) : Option (Int32 × gM) :=
  nmI (v4 + 1) (fun x8 => K7 v2 v3 x8 M)
set_option maxHeartbeats 4000000 in
set_option maxRecDepth 20000 in
theorem j_Main_freestDish_43 {l : Launch} {ld : Nat} {Q : Option Value → gM → gL → gR → Prop} (hld : isLa ld)   {q : Int32 × gM} {M : gM} {L : gL} (hQ : Q (some (.int q.1)) q.2 L (rf ld)) {K7 : Int32 → Int32 → Int32 → gM → Option (Int32 × gM)} {v1 : Int32} {v2 : Int32} {v3 : Int32} {v4 : Int32} (hK7 : ∀ (w2 : Int32) (w3 : Int32) (w4 : Int32) (M : gM), K7 w2 w3 w4 M = some q → Wp l y_Main_freestDish (0, 0, 447) 447 0 0 7 [(0, .ref 0), (1, .int v1), (2, .int w2), (3, .int w3), (4, .int w4)] [] M L (rf ld) Q) (h : J_Main_freestDish_43 ld K7 v1 v2 v3 v4 M = some q) : Wp l y_Main_freestDish (0, 0, 447) 447 0 0 43 [(0, .ref 0), (1, .int v1), (2, .int v2), (3, .int v3), (4, .int v4)] [] M L (rf ld) Q := by
  unfold J_Main_freestDish_43 at h
  obtain ⟨x8, ex8, h⟩ := ltI h
  refine g_iinc (pc1 := 46) (v := x8) (lv' := [(0, .ref 0), (1, .int v1), (2, .int v2), (3, .int v3), (4, .int x8)]) d_Main_freestDish_43 rfl 4 rfl (by rw [ex8]; rfl) (by decide) [1, 2, 3, 4, 0] rfl ?_
  refine g_goto (tgt := 7) d_Main_freestDish_46 (by decide) ?_
  exact hK7 v2 v3 x8 M h
def B_Main_freestDish_7 (ld : Nat) (v1 : Int32) (K7 : Int32 → Int32 → Int32 → gM → Option (Int32 × gM)) : Int32 → Int32 → Int32 → gM → Option (Int32 × gM) := fun v2 v3 v4 M =>
  (if (M ld 1) ≤ v4 then some (v3, M) else bI2 (F_Main_freeBehind ld v1 v4 M) (fun r3 M4 => bI (F_Int_bitCount r3) (fun r6 => (if r6 ≤ v2 then J_Main_freestDish_43 ld K7 v1 v2 v3 v4 M4 else J_Main_freestDish_43 ld K7 v1 r6 v4 v4 M4))))
def H_Main_freestDish_7 (ld : Nat) (v1 : Int32) : Nat → Int32 → Int32 → Int32 → gM → Option (Int32 × gM) := lpK (B_Main_freestDish_7 ld v1) (fun _ _ _ _ => none)
set_option maxHeartbeats 4000000 in
set_option maxRecDepth 20000 in
theorem h_Main_freestDish_7 {l : Launch} {ld : Nat} {Q : Option Value → gM → gL → gR → Prop} (hld : isLa ld)   {q : Int32 × gM} {L : gL} (hQ : Q (some (.int q.1)) q.2 L (rf ld))  {v1 : Int32}  : ∀ (f : Nat) (v2 : Int32) (v3 : Int32) (v4 : Int32) (M : gM), H_Main_freestDish_7 ld v1 f v2 v3 v4 M = some q → Wp l y_Main_freestDish (0, 0, 447) 447 0 0 7 [(0, .ref 0), (1, .int v1), (2, .int v2), (3, .int v3), (4, .int v4)] [] M L (rf ld) Q := by
  intro f
  induction f with
  | zero => intro v2 v3 v4 M h; cases h
  | succ f hK7 =>
    intro v2 v3 v4 M h
    replace h : B_Main_freestDish_7 ld v1 (H_Main_freestDish_7 ld v1 f) v2 v3 v4 M = some q := h
    unfold B_Main_freestDish_7 at h
    refine g_iload (pc1 := 9) d_Main_freestDish_7 rfl 4 rfl ?_
    refine g_aload_n (pc1 := 10) d_Main_freestDish_9 rfl 0 rfl ?_
    refine g_getr (pc1 := 13) d_Main_freestDish_10 rfl ⟨_, fo_Main_26⟩ sh_0 (by decide) (rf_0_2 ld) ?_
    refine g_geti (pc1 := 16) d_Main_freestDish_13 rfl ⟨_, fo_Main_131⟩ (shLa_0 hld) (ltLa_0 hld) ?_
    refine g_icmp_ge (pc1 := 19) (tgt := 49) d_Main_freestDish_16 (by decide) rfl (fun c1 => ?_) (fun c1 => ?_)
    · replace h := itp h c1
      refine g_iload_n (pc1 := 50) d_Main_freestDish_49 rfl 3 rfl ?_
      refine g_ireturn (Or.inl rfl) d_Main_freestDish_50 rfl ?_
      cases h; exact hQ
    · replace h := itn h c1
      refine g_aload_n (pc1 := 20) d_Main_freestDish_19 rfl 0 rfl ?_
      refine g_iload_n (pc1 := 21) d_Main_freestDish_20 rfl 1 rfl ?_
      refine g_iload (pc1 := 23) d_Main_freestDish_21 rfl 4 rfl ?_
      refine g_callV0 (pc1 := 26) (As := [.int v1, .int v4]) (rest := []) d_Main_freestDish_23 rfl mo_Main_246 mi_Main_freeBehind mv_Main_freeBehind rfl sh_0 (by decide) (by decide) rfl rfl (Nat.le_of_ble_eq_true rfl) ?_
      obtain ⟨r3, M4, hq2, h⟩ := bnd2 h
      refine f_Main_freeBehind hld  hq2 ?_
      dsimp only [psh]
      refine g_callS0 (pc1 := 29) (As := [.int r3]) (rest := []) d_Main_freestDish_26 rfl mo_Main_249 ms_Int_bitCount (by decide) rfl rfl (Nat.le_of_ble_eq_true rfl) ?_
      obtain ⟨r6, hq5, h⟩ := bnd h
      refine f_Int_bitCount hld  hq5 ?_
      dsimp only [psh]
      refine g_istore (pc1 := 31) (lv' := [(0, .ref 0), (1, .int v1), (2, .int v2), (3, .int v3), (4, .int v4), (5, .int r6)]) d_Main_freestDish_29 rfl (by decide) [1, 2, 3, 4, 5, 0] rfl ?_
      refine g_iload (pc1 := 33) d_Main_freestDish_31 rfl 5 rfl ?_
      refine g_iload_n (pc1 := 34) d_Main_freestDish_33 rfl 2 rfl ?_
      refine g_icmp_le (pc1 := 37) (tgt := 43) d_Main_freestDish_34 (by decide) rfl (fun c7 => ?_) (fun c7 => ?_)
      · replace h := itp h c7
        refine Wp.loc (lv' := [(0, .ref 0), (1, .int v1), (2, .int v2), (3, .int v3), (4, .int v4)]) [0, 1, 2, 3, 4] rfl ?_
        exact j_Main_freestDish_43 hld  hQ hK7 h
      · replace h := itn h c7
        refine g_iload (pc1 := 39) d_Main_freestDish_37 rfl 5 rfl ?_
        refine g_istore_n (pc1 := 40) (lv' := [(0, .ref 0), (1, .int v1), (2, .int r6), (3, .int v3), (4, .int v4), (5, .int r6)]) d_Main_freestDish_39 rfl rfl (by decide) [1, 2, 0, 3, 4, 5] rfl ?_
        refine g_iload (pc1 := 42) d_Main_freestDish_40 rfl 4 rfl ?_
        refine g_istore_n (pc1 := 43) (lv' := [(0, .ref 0), (1, .int v1), (2, .int r6), (3, .int v4), (4, .int v4), (5, .int r6)]) d_Main_freestDish_42 rfl rfl (by decide) [1, 2, 3, 0, 4, 5] rfl ?_
        refine Wp.loc (lv' := [(0, .ref 0), (1, .int v1), (2, .int r6), (3, .int v4), (4, .int v4)]) [0, 1, 2, 3, 4] rfl ?_
        exact j_Main_freestDish_43 hld  hQ hK7 h
def F_Main_freestDish (ld : Nat) (p1 : Int32) (M : gM) : Option (Int32 × gM) :=
  H_Main_freestDish_7 ld p1 FU (-1) (-1) 0 M
set_option maxHeartbeats 4000000 in
set_option maxRecDepth 20000 in
theorem f_Main_freestDish {l : Launch} {ld : Nat} {M : gM} {L : gL} {Q : Option Value → gM → gL → gR → Prop} (hld : isLa ld) {p1 : Int32}  {q : Int32 × gM} (h : F_Main_freestDish ld p1 M = some q) (hQ : Q (some (.int q.1)) q.2 L (rf ld)) : Tm l y_Main_freestDish (0, 0, 447) 447 [.ref 0, .int p1] M L (rf ld) Q := by
  refine Tm.of (by decide) (Nat.le_of_ble_eq_true rfl) ?_
  show Wp l y_Main_freestDish (0, 0, 447) 447 0 0 0 [(0, .ref 0), (1, .int p1)] [] M L (rf ld) Q
  unfold F_Main_freestDish at h
  refine g_iconst (pc1 := 1) (v := (-1)) d_Main_freestDish_0 rfl (by decide) ?_
  refine g_istore_n (pc1 := 2) (lv' := [(0, .ref 0), (1, .int p1), (2, .int (-1))]) d_Main_freestDish_1 rfl rfl (by decide) [1, 2, 0] rfl ?_
  refine g_iconst (pc1 := 3) (v := (-1)) d_Main_freestDish_2 rfl (by decide) ?_
  refine g_istore_n (pc1 := 4) (lv' := [(0, .ref 0), (1, .int p1), (2, .int (-1)), (3, .int (-1))]) d_Main_freestDish_3 rfl rfl (by decide) [1, 2, 3, 0] rfl ?_
  refine g_iconst (pc1 := 5) (v := 0) d_Main_freestDish_4 rfl (by decide) ?_
  refine g_istore (pc1 := 7) (lv' := [(0, .ref 0), (1, .int p1), (2, .int (-1)), (3, .int (-1)), (4, .int 0)]) d_Main_freestDish_5 rfl (by decide) [1, 2, 3, 4, 0] rfl ?_
  exact h_Main_freestDish_7 hld  hQ  _ (-1) (-1) 0 M h

def B_Main_often_29 (ld : Nat) (v1 : Int32) (K29 : Int32 → gM → Option (Int32 × gM)) : Int32 → gM → Option (Int32 × gM) := fun v2 M =>
  (if 99 < v2 then some (v2, M) else bI (F_State_inStore 71 ld v1 M) (fun r8 => (if r8 = 0 then some (v2, M) else bI2 (F_State_cookOne 71 ld v1 M) (fun r11 M12 => nmI (v2 + 1) (fun x13 => K29 x13 M12)))))
def H_Main_often_29 (ld : Nat) (v1 : Int32) : Nat → Int32 → gM → Option (Int32 × gM) := lpK (B_Main_often_29 ld v1) (fun _ _ => none)
set_option maxHeartbeats 4000000 in
set_option maxRecDepth 20000 in
theorem h_Main_often_29 {l : Launch} {ld : Nat} {Q : Option Value → gM → gL → gR → Prop} (hld : isLa ld)   {q : Int32 × gM} {L : gL} (hQ : Q (some (.int q.1)) q.2 L (rf ld))  {v1 : Int32}  : ∀ (f : Nat) (v2 : Int32) (M : gM), H_Main_often_29 ld v1 f v2 M = some q → Wp l y_Main_often (0, 0, 447) 447 0 0 29 [(0, .ref 0), (1, .int v1), (2, .int v2)] [] M L (rf ld) Q := by
  intro f
  induction f with
  | zero => intro v2 M h; cases h
  | succ f hK29 =>
    intro v2 M h
    replace h : B_Main_often_29 ld v1 (H_Main_often_29 ld v1 f) v2 M = some q := h
    unfold B_Main_often_29 at h
    refine g_iload_n (pc1 := 30) d_Main_often_29 rfl 2 rfl ?_
    refine g_bipush (pc1 := 32) (v := 99) d_Main_often_30 rfl (by decide) ?_
    refine g_icmp_gt (pc1 := 35) (tgt := 69) d_Main_often_32 (by decide) rfl (fun c6 => ?_) (fun c6 => ?_)
    · replace h := itp h c6
      refine g_iload_n (pc1 := 70) d_Main_often_69 rfl 2 rfl ?_
      refine g_ireturn (Or.inl rfl) d_Main_often_70 rfl ?_
      cases h; exact hQ
    · replace h := itn h c6
      refine g_aload_n (pc1 := 36) d_Main_often_35 rfl 0 rfl ?_
      refine g_getr (pc1 := 39) d_Main_often_36 rfl ⟨_, fo_Main_40⟩ sh_0 (by decide) (rf_0_5 ld) ?_
      refine g_aload_n (pc1 := 40) d_Main_often_39 rfl 0 rfl ?_
      refine g_getr (pc1 := 43) d_Main_often_40 rfl ⟨_, fo_Main_26⟩ sh_0 (by decide) (rf_0_2 ld) ?_
      refine g_iload_n (pc1 := 44) d_Main_often_43 rfl 1 rfl ?_
      refine g_callV0 (pc1 := 47) (As := [.ref ld, .int v1]) (rest := []) d_Main_often_44 rfl mo_Main_196 mi_State_inStore mv_State_inStore rfl (shSt_0 isSt_71) (ltSt_0 isSt_71) (by decide) rfl rfl (Nat.le_of_ble_eq_true rfl) ?_
      obtain ⟨r8, hq7, h⟩ := bnd h
      refine f_State_inStore hld isSt_71 hld hq7 ?_
      dsimp only [psh]
      refine g_if_eq (pc1 := 50) (tgt := 69) d_Main_often_47 (by decide) rfl (fun c9 => ?_) (fun c9 => ?_)
      · replace h := itp h c9
        refine g_iload_n (pc1 := 70) d_Main_often_69 rfl 2 rfl ?_
        refine g_ireturn (Or.inl rfl) d_Main_often_70 rfl ?_
        cases h; exact hQ
      · replace h := itn h c9
        refine g_aload_n (pc1 := 51) d_Main_often_50 rfl 0 rfl ?_
        refine g_getr (pc1 := 54) d_Main_often_51 rfl ⟨_, fo_Main_40⟩ sh_0 (by decide) (rf_0_5 ld) ?_
        refine g_aload_n (pc1 := 55) d_Main_often_54 rfl 0 rfl ?_
        refine g_getr (pc1 := 58) d_Main_often_55 rfl ⟨_, fo_Main_26⟩ sh_0 (by decide) (rf_0_2 ld) ?_
        refine g_iload_n (pc1 := 59) d_Main_often_58 rfl 1 rfl ?_
        refine g_callV0 (pc1 := 62) (As := [.ref ld, .int v1]) (rest := []) d_Main_often_59 rfl mo_Main_204 mi_State_cookOne mv_State_cookOne rfl (shSt_0 isSt_71) (ltSt_0 isSt_71) (by decide) rfl rfl (Nat.le_of_ble_eq_true rfl) ?_
        obtain ⟨r11, M12, hq10, h⟩ := bnd2 h
        refine f_State_cookOne hld isSt_71 hld hq10 ?_
        dsimp only [psh]
        refine g_pop (pc1 := 63) d_Main_often_62 rfl rfl ?_
        obtain ⟨x13, ex13, h⟩ := ltI h
        refine g_iinc (pc1 := 66) (v := x13) (lv' := [(0, .ref 0), (1, .int v1), (2, .int x13)]) d_Main_often_63 rfl 2 rfl (by rw [ex13]; rfl) (by decide) [1, 2, 0] rfl ?_
        refine g_goto (tgt := 29) d_Main_often_66 (by decide) ?_
        exact hK29 x13 M12 h
def F_Main_often (ld : Nat) (p1 : Int32) (M : gM) : Option (Int32 × gM) :=
  bI (F_Main_isOne p1 (M ld 1)) (fun r2 => (if r2 = 0 then some ((-1), M) else bI (F_State_copyFrom 71 64 M) (fun M5 => H_Main_often_29 ld p1 FU 0 M5)))
set_option maxHeartbeats 4000000 in
set_option maxRecDepth 20000 in
theorem f_Main_often {l : Launch} {ld : Nat} {M : gM} {L : gL} {Q : Option Value → gM → gL → gR → Prop} (hld : isLa ld) {p1 : Int32}  {q : Int32 × gM} (h : F_Main_often ld p1 M = some q) (hQ : Q (some (.int q.1)) q.2 L (rf ld)) : Tm l y_Main_often (0, 0, 447) 447 [.ref 0, .int p1] M L (rf ld) Q := by
  refine Tm.of (by decide) (Nat.le_of_ble_eq_true rfl) ?_
  show Wp l y_Main_often (0, 0, 447) 447 0 0 0 [(0, .ref 0), (1, .int p1)] [] M L (rf ld) Q
  unfold F_Main_often at h
  refine g_iload_n (pc1 := 1) d_Main_often_0 rfl 1 rfl ?_
  refine g_aload_n (pc1 := 2) d_Main_often_1 rfl 0 rfl ?_
  refine g_getr (pc1 := 5) d_Main_often_2 rfl ⟨_, fo_Main_26⟩ sh_0 (by decide) (rf_0_2 ld) ?_
  refine g_geti (pc1 := 8) d_Main_often_5 rfl ⟨_, fo_Main_131⟩ (shLa_0 hld) (ltLa_0 hld) ?_
  refine g_callS0 (pc1 := 11) (As := [.int p1, .int (M ld 1)]) (rest := []) d_Main_often_8 rfl mo_Main_112 ms_Main_isOne (by decide) rfl rfl (Nat.le_of_ble_eq_true rfl) ?_
  obtain ⟨r2, hq1, h⟩ := bnd h
  refine f_Main_isOne hld  hq1 ?_
  dsimp only [psh]
  refine g_if_ne (pc1 := 14) (tgt := 16) d_Main_often_11 (by decide) rfl (fun c3 => ?_) (fun c3 => ?_)
  · replace h := itn h c3
    refine g_aload_n (pc1 := 17) d_Main_often_16 rfl 0 rfl ?_
    refine g_getr (pc1 := 20) d_Main_often_17 rfl ⟨_, fo_Main_40⟩ sh_0 (by decide) (rf_0_5 ld) ?_
    refine g_aload_n (pc1 := 21) d_Main_often_20 rfl 0 rfl ?_
    refine g_getr (pc1 := 24) d_Main_often_21 rfl ⟨_, fo_Main_36⟩ sh_0 (by decide) (rf_0_4 ld) ?_
    refine g_callV0 (pc1 := 27) (As := [.ref 64]) (rest := []) d_Main_often_24 rfl mo_Main_262 mi_State_copyFrom mv_State_copyFrom rfl (shSt_0 isSt_71) (ltSt_0 isSt_71) (by decide) rfl rfl (Nat.le_of_ble_eq_true rfl) ?_
    obtain ⟨M5, hq4, h⟩ := bnd h
    refine f_State_copyFrom hld isSt_71 isSt_64 hq4 ?_
    dsimp only [psh]
    refine g_iconst (pc1 := 28) (v := 0) d_Main_often_27 rfl (by decide) ?_
    refine g_istore_n (pc1 := 29) (lv' := [(0, .ref 0), (1, .int p1), (2, .int 0)]) d_Main_often_28 rfl rfl (by decide) [1, 2, 0] rfl ?_
    exact h_Main_often_29 hld  hQ  _ 0 M5 h
  · replace h := itp h c3
    refine g_iconst (pc1 := 15) (v := (-1)) d_Main_often_14 rfl (by decide) ?_
    refine g_ireturn (Or.inl rfl) d_Main_often_15 rfl ?_
    cases h; exact hQ
end MG4x3
section MG4x4
def F_Main_pot (ld : Nat) (p1 : Int32) (p2 : Int32) (p3 : Int32) (p4 : Int32) (M : gM) : Option (Int32 × gM) :=
  bI (F_Main_isOne p1 100) (fun r2 => (if r2 = 0 then some ((-1), M) else bI (F_Main_isOne p2 100) (fun r5 => (if r5 = 0 then some ((-1), M) else bI (F_Main_isOne p3 100) (fun r8 => (if r8 = 0 then some ((-1), M) else bI (F_Main_isOne p4 8) (fun r11 => (if r11 = 0 then some ((-1), M) else bI2 (F_PotSearch_find ld 64 p1 p2 p3 M) (fun r14 M15 => (if r14 = 0 then some ((-2), M15) else (if p4 = 0 then some ((M15 391 6), M15) else (if p4 = 1 then some ((M15 391 8), M15) else bI (F_Main_at 395 6 (p4 - 2) M15) (fun r20 => some (r20, M15))))))))))))))
set_option maxHeartbeats 4000000 in
set_option maxRecDepth 20000 in
theorem f_Main_pot {l : Launch} {ld : Nat} {M : gM} {L : gL} {Q : Option Value → gM → gL → gR → Prop} (hld : isLa ld) {p1 : Int32} {p2 : Int32} {p3 : Int32} {p4 : Int32}  {q : Int32 × gM} (h : F_Main_pot ld p1 p2 p3 p4 M = some q) (hQ : Q (some (.int q.1)) q.2 L (rf ld)) : Tm l y_Main_pot (0, 0, 447) 447 [.ref 0, .int p1, .int p2, .int p3, .int p4] M L (rf ld) Q := by
  refine Tm.of (by decide) (Nat.le_of_ble_eq_true rfl) ?_
  show Wp l y_Main_pot (0, 0, 447) 447 0 0 0 [(0, .ref 0), (1, .int p1), (2, .int p2), (3, .int p3), (4, .int p4)] [] M L (rf ld) Q
  unfold F_Main_pot at h
  refine g_iload_n (pc1 := 1) d_Main_pot_0 rfl 1 rfl ?_
  refine g_bipush (pc1 := 3) (v := 100) d_Main_pot_1 rfl (by decide) ?_
  refine g_callS0 (pc1 := 6) (As := [.int p1, .int 100]) (rest := []) d_Main_pot_3 rfl mo_Main_112 ms_Main_isOne (by decide) rfl rfl (Nat.le_of_ble_eq_true rfl) ?_
  obtain ⟨r2, hq1, h⟩ := bnd h
  refine f_Main_isOne hld  hq1 ?_
  dsimp only [psh]
  refine g_if_eq (pc1 := 9) (tgt := 37) d_Main_pot_6 (by decide) rfl (fun c3 => ?_) (fun c3 => ?_)
  · replace h := itp h c3
    refine g_iconst (pc1 := 38) (v := (-1)) d_Main_pot_37 rfl (by decide) ?_
    refine g_ireturn (Or.inl rfl) d_Main_pot_38 rfl ?_
    cases h; exact hQ
  · replace h := itn h c3
    refine g_iload_n (pc1 := 10) d_Main_pot_9 rfl 2 rfl ?_
    refine g_bipush (pc1 := 12) (v := 100) d_Main_pot_10 rfl (by decide) ?_
    refine g_callS0 (pc1 := 15) (As := [.int p2, .int 100]) (rest := []) d_Main_pot_12 rfl mo_Main_112 ms_Main_isOne (by decide) rfl rfl (Nat.le_of_ble_eq_true rfl) ?_
    obtain ⟨r5, hq4, h⟩ := bnd h
    refine f_Main_isOne hld  hq4 ?_
    dsimp only [psh]
    refine g_if_eq (pc1 := 18) (tgt := 37) d_Main_pot_15 (by decide) rfl (fun c6 => ?_) (fun c6 => ?_)
    · replace h := itp h c6
      refine g_iconst (pc1 := 38) (v := (-1)) d_Main_pot_37 rfl (by decide) ?_
      refine g_ireturn (Or.inl rfl) d_Main_pot_38 rfl ?_
      cases h; exact hQ
    · replace h := itn h c6
      refine g_iload_n (pc1 := 19) d_Main_pot_18 rfl 3 rfl ?_
      refine g_bipush (pc1 := 21) (v := 100) d_Main_pot_19 rfl (by decide) ?_
      refine g_callS0 (pc1 := 24) (As := [.int p3, .int 100]) (rest := []) d_Main_pot_21 rfl mo_Main_112 ms_Main_isOne (by decide) rfl rfl (Nat.le_of_ble_eq_true rfl) ?_
      obtain ⟨r8, hq7, h⟩ := bnd h
      refine f_Main_isOne hld  hq7 ?_
      dsimp only [psh]
      refine g_if_eq (pc1 := 27) (tgt := 37) d_Main_pot_24 (by decide) rfl (fun c9 => ?_) (fun c9 => ?_)
      · replace h := itp h c9
        refine g_iconst (pc1 := 38) (v := (-1)) d_Main_pot_37 rfl (by decide) ?_
        refine g_ireturn (Or.inl rfl) d_Main_pot_38 rfl ?_
        cases h; exact hQ
      · replace h := itn h c9
        refine g_iload (pc1 := 29) d_Main_pot_27 rfl 4 rfl ?_
        refine g_bipush (pc1 := 31) (v := 8) d_Main_pot_29 rfl (by decide) ?_
        refine g_callS0 (pc1 := 34) (As := [.int p4, .int 8]) (rest := []) d_Main_pot_31 rfl mo_Main_112 ms_Main_isOne (by decide) rfl rfl (Nat.le_of_ble_eq_true rfl) ?_
        obtain ⟨r11, hq10, h⟩ := bnd h
        refine f_Main_isOne hld  hq10 ?_
        dsimp only [psh]
        refine g_if_ne (pc1 := 37) (tgt := 39) d_Main_pot_34 (by decide) rfl (fun c12 => ?_) (fun c12 => ?_)
        · replace h := itn h c12
          refine g_aload_n (pc1 := 40) d_Main_pot_39 rfl 0 rfl ?_
          refine g_getr (pc1 := 43) d_Main_pot_40 rfl ⟨_, fo_Main_67⟩ sh_0 (by decide) (rf_0_9 ld) ?_
          refine g_aload_n (pc1 := 44) d_Main_pot_43 rfl 0 rfl ?_
          refine g_getr (pc1 := 47) d_Main_pot_44 rfl ⟨_, fo_Main_26⟩ sh_0 (by decide) (rf_0_2 ld) ?_
          refine g_aload_n (pc1 := 48) d_Main_pot_47 rfl 0 rfl ?_
          refine g_getr (pc1 := 51) d_Main_pot_48 rfl ⟨_, fo_Main_36⟩ sh_0 (by decide) (rf_0_4 ld) ?_
          refine g_iload_n (pc1 := 52) d_Main_pot_51 rfl 1 rfl ?_
          refine g_iload_n (pc1 := 53) d_Main_pot_52 rfl 2 rfl ?_
          refine g_iload_n (pc1 := 54) d_Main_pot_53 rfl 3 rfl ?_
          refine g_callV0 (pc1 := 57) (As := [.ref ld, .ref 64, .int p1, .int p2, .int p3]) (rest := []) d_Main_pot_54 rfl mo_Main_222 mi_PotSearch_find mv_PotSearch_find rfl sh_391 (by decide) (by decide) rfl rfl (Nat.le_of_ble_eq_true rfl) ?_
          obtain ⟨r14, M15, hq13, h⟩ := bnd2 h
          refine f_PotSearch_find hld hld isSt_64 hq13 ?_
          dsimp only [psh]
          refine g_if_ne (pc1 := 60) (tgt := 63) d_Main_pot_57 (by decide) rfl (fun c16 => ?_) (fun c16 => ?_)
          · replace h := itn h c16
            refine g_iload (pc1 := 65) d_Main_pot_63 rfl 4 rfl ?_
            refine g_if_ne (pc1 := 68) (tgt := 76) d_Main_pot_65 (by decide) rfl (fun c17 => ?_) (fun c17 => ?_)
            · replace h := itn h c17
              refine g_iload (pc1 := 78) d_Main_pot_76 rfl 4 rfl ?_
              refine g_iconst (pc1 := 79) (v := 1) d_Main_pot_78 rfl (by decide) ?_
              refine g_icmp_ne (pc1 := 82) (tgt := 92) d_Main_pot_79 (by decide) rfl (fun c18 => ?_) (fun c18 => ?_)
              · replace h := itn h c18
                refine g_aload_n (pc1 := 93) d_Main_pot_92 rfl 0 rfl ?_
                refine g_getr (pc1 := 96) d_Main_pot_93 rfl ⟨_, fo_Main_67⟩ sh_0 (by decide) (rf_0_9 ld) ?_
                refine g_getr (pc1 := 99) d_Main_pot_96 rfl ⟨_, fo_Main_232⟩ sh_391 (by decide) (rf_391_5 ld) ?_
                refine g_iload (pc1 := 101) d_Main_pot_99 rfl 4 rfl ?_
                refine g_iconst (pc1 := 102) (v := 2) d_Main_pot_101 rfl (by decide) ?_
                refine g_isub (pc1 := 103) d_Main_pot_102 rfl ?_
                refine g_callS0 (pc1 := 106) (As := [.ref 395, .int (p4 - 2)]) (rest := []) d_Main_pot_103 rfl mo_Main_120 ms_Main_at (by decide) rfl rfl (Nat.le_of_ble_eq_true rfl) ?_
                obtain ⟨r20, hq19, h⟩ := bnd h
                refine f_Main_at hld sh_395 (by decide) (by decide) hq19 ?_
                dsimp only [psh]
                refine g_ireturn (Or.inl rfl) d_Main_pot_106 rfl ?_
                cases h; exact hQ
              · replace h := itp h c18
                refine g_aload_n (pc1 := 83) d_Main_pot_82 rfl 0 rfl ?_
                refine g_getr (pc1 := 86) d_Main_pot_83 rfl ⟨_, fo_Main_67⟩ sh_0 (by decide) (rf_0_9 ld) ?_
                refine g_geti (pc1 := 89) d_Main_pot_86 rfl ⟨_, fo_Main_229⟩ sh_391 (by decide) ?_
                refine g_goto (tgt := 106) d_Main_pot_89 (by decide) ?_
                refine g_ireturn (Or.inl rfl) d_Main_pot_106 rfl ?_
                cases h; exact hQ
            · replace h := itp h c17
              refine g_aload_n (pc1 := 69) d_Main_pot_68 rfl 0 rfl ?_
              refine g_getr (pc1 := 72) d_Main_pot_69 rfl ⟨_, fo_Main_67⟩ sh_0 (by decide) (rf_0_9 ld) ?_
              refine g_geti (pc1 := 75) d_Main_pot_72 rfl ⟨_, fo_Main_226⟩ sh_391 (by decide) ?_
              refine g_ireturn (Or.inl rfl) d_Main_pot_75 rfl ?_
              cases h; exact hQ
          · replace h := itp h c16
            refine g_bipush (pc1 := 62) (v := (-2)) d_Main_pot_60 rfl (by decide) ?_
            refine g_ireturn (Or.inl rfl) d_Main_pot_62 rfl ?_
            cases h; exact hQ
        · replace h := itp h c12
          refine g_iconst (pc1 := 38) (v := (-1)) d_Main_pot_37 rfl (by decide) ?_
          refine g_ireturn (Or.inl rfl) d_Main_pot_38 rfl ?_
          cases h; exact hQ

def F_Main_read (ld : Nat) (M : gM) (L : gL) : Option (Int32 × gM × gL × Nat) :=
  bI3 (F_Reader_parse (50 - ld) M L) (fun r2 M3 L4 => bI (F_Reader_placeOfFault M3) (fun r6 => nmM (uM M3 0 11 r6) (fun M7 => nmM (uM M7 1 1 0) (fun M8 => (if r2 = 0 then bI (F_Main_beginDraft ld M8) (fun M11 => some (r2, M11, L4, (50 - ld))) else some (r2, M8, L4, ld))))))
set_option maxHeartbeats 4000000 in
set_option maxRecDepth 20000 in
theorem f_Main_read {l : Launch} {ld : Nat} {M : gM} {L : gL} {Q : Option Value → gM → gL → gR → Prop} (hld : isLa ld)   {q : Int32 × gM × gL × Nat} (h : F_Main_read ld M L = some q) (hQ : isLa q.2.2.2 → Q (some (.int q.1)) q.2.1 q.2.2.1 (rf q.2.2.2)) : Tm l y_Main_read (0, 0, 447) 447 [.ref 0] M L (rf ld) Q := by
  refine Tm.of (by decide) (Nat.le_of_ble_eq_true rfl) ?_
  show Wp l y_Main_read (0, 0, 447) 447 0 0 0 [(0, .ref 0)] [] M L (rf ld) Q
  unfold F_Main_read at h
  refine g_aload_n (pc1 := 1) d_Main_read_0 rfl 0 rfl ?_
  refine g_getr (pc1 := 4) d_Main_read_1 rfl ⟨_, fo_Main_19⟩ sh_0 (by decide) (rf_0_1 ld) ?_
  refine g_aload_n (pc1 := 5) d_Main_read_4 rfl 0 rfl ?_
  refine g_getr (pc1 := 8) d_Main_read_5 rfl ⟨_, fo_Main_12⟩ sh_0 (by decide) (rf_0_0 ld) ?_
  refine g_aload_n (pc1 := 9) d_Main_read_8 rfl 0 rfl ?_
  refine g_getr (pc1 := 12) d_Main_read_9 rfl ⟨_, fo_Main_30⟩ sh_0 (by decide) (rf_0_3 ld) ?_
  refine g_callV0 (pc1 := 15) (As := [.ref 1, .ref (50 - ld)]) (rest := []) d_Main_read_12 rfl mo_Main_89 mi_Reader_parse mv_Reader_parse rfl sh_3 (by decide) (by decide) rfl rfl (Nat.le_of_ble_eq_true rfl) ?_
  obtain ⟨r2, M3, L4, hq1, h⟩ := bnd3 h
  refine f_Reader_parse hld (isLa_dr hld) hq1 ?_
  dsimp only [psh]
  refine g_istore_n (pc1 := 16) (lv' := [(0, .ref 0), (1, .int r2)]) d_Main_read_15 rfl rfl (by decide) [1, 0] rfl ?_
  refine g_aload_n (pc1 := 17) d_Main_read_16 rfl 0 rfl ?_
  refine g_aload_n (pc1 := 18) d_Main_read_17 rfl 0 rfl ?_
  refine g_getr (pc1 := 21) d_Main_read_18 rfl ⟨_, fo_Main_19⟩ sh_0 (by decide) (rf_0_1 ld) ?_
  refine g_callV0 (pc1 := 24) (As := []) (rest := [.ref 0]) d_Main_read_21 rfl mo_Main_93 mi_Reader_placeOfFault mv_Reader_placeOfFault rfl sh_3 (by decide) (by decide) rfl rfl (Nat.le_of_ble_eq_true rfl) ?_
  obtain ⟨r6, hq5, h⟩ := bnd h
  refine f_Reader_placeOfFault hld  hq5 ?_
  dsimp only [psh]
  refine g_puti (pc1 := 27) d_Main_read_24 rfl fo_Main_78 (po_0_11 _) sh_0 (by decide) ?_
  refine Wp.lM h (fun M7 h => ?_)
  refine g_aload_n (pc1 := 28) d_Main_read_27 rfl 0 rfl ?_
  refine g_getr (pc1 := 31) d_Main_read_28 rfl ⟨_, fo_Main_12⟩ sh_0 (by decide) (rf_0_0 ld) ?_
  refine g_iconst (pc1 := 32) (v := 0) d_Main_read_31 rfl (by decide) ?_
  refine g_puti (pc1 := 35) d_Main_read_32 rfl fo_Main_82 (po_1_1 _) sh_1 (by decide) ?_
  refine Wp.lM h (fun M8 h => ?_)
  refine g_iload_n (pc1 := 36) d_Main_read_35 rfl 1 rfl ?_
  refine g_if_ne (pc1 := 39) (tgt := 43) d_Main_read_36 (by decide) rfl (fun c9 => ?_) (fun c9 => ?_)
  · replace h := itn h c9
    refine g_iload_n (pc1 := 44) d_Main_read_43 rfl 1 rfl ?_
    refine g_ireturn (Or.inl rfl) d_Main_read_44 rfl ?_
    cases h; exact hQ hld
  · replace h := itp h c9
    refine g_aload_n (pc1 := 40) d_Main_read_39 rfl 0 rfl ?_
    refine g_callV0 (pc1 := 43) (As := []) (rest := []) d_Main_read_40 rfl mo_Main_97 mi_Main_beginDraft mv_Main_beginDraft rfl sh_0 (by decide) (by decide) rfl rfl (Nat.le_of_ble_eq_true rfl) ?_
    obtain ⟨M11, hq10, h⟩ := bnd h
    refine f_Main_beginDraft hld  hq10 ?_
    dsimp only [psh]
    refine g_iload_n (pc1 := 44) d_Main_read_43 rfl 1 rfl ?_
    refine g_ireturn (Or.inl rfl) d_Main_read_44 rfl ?_
    cases h; exact hQ (isLa_dr hld)

def F_Main_sure (ld : Nat) (p1 : Int32) (M : gM) : Option (Int32 × gM) :=
  bI (F_Main_isOne p1 ((M 383 3) + 1)) (fun r2 => (if r2 = 0 then some ((-1), M) else bI (F_Told_gather ld (M 64 0) p1 M) (fun M5 => bI (F_Told_onlyDish M5) (fun r7 => some (r7, M5)))))
set_option maxHeartbeats 4000000 in
set_option maxRecDepth 20000 in
theorem f_Main_sure {l : Launch} {ld : Nat} {M : gM} {L : gL} {Q : Option Value → gM → gL → gR → Prop} (hld : isLa ld) {p1 : Int32}  {q : Int32 × gM} (h : F_Main_sure ld p1 M = some q) (hQ : Q (some (.int q.1)) q.2 L (rf ld)) : Tm l y_Main_sure (0, 0, 447) 447 [.ref 0, .int p1] M L (rf ld) Q := by
  refine Tm.of (by decide) (Nat.le_of_ble_eq_true rfl) ?_
  show Wp l y_Main_sure (0, 0, 447) 447 0 0 0 [(0, .ref 0), (1, .int p1)] [] M L (rf ld) Q
  unfold F_Main_sure at h
  refine g_iload_n (pc1 := 1) d_Main_sure_0 rfl 1 rfl ?_
  refine g_aload_n (pc1 := 2) d_Main_sure_1 rfl 0 rfl ?_
  refine g_getr (pc1 := 5) d_Main_sure_2 rfl ⟨_, fo_Main_60⟩ sh_0 (by decide) (rf_0_8 ld) ?_
  refine g_geti (pc1 := 8) d_Main_sure_5 rfl ⟨_, fo_Main_275⟩ sh_383 (by decide) ?_
  refine g_iconst (pc1 := 9) (v := 1) d_Main_sure_8 rfl (by decide) ?_
  refine g_iadd (pc1 := 10) d_Main_sure_9 rfl ?_
  refine g_callS0 (pc1 := 13) (As := [.int p1, .int ((M 383 3) + 1)]) (rest := []) d_Main_sure_10 rfl mo_Main_112 ms_Main_isOne (by decide) rfl rfl (Nat.le_of_ble_eq_true rfl) ?_
  obtain ⟨r2, hq1, h⟩ := bnd h
  refine f_Main_isOne hld  hq1 ?_
  dsimp only [psh]
  refine g_if_ne (pc1 := 16) (tgt := 18) d_Main_sure_13 (by decide) rfl (fun c3 => ?_) (fun c3 => ?_)
  · replace h := itn h c3
    refine g_aload_n (pc1 := 19) d_Main_sure_18 rfl 0 rfl ?_
    refine g_getr (pc1 := 22) d_Main_sure_19 rfl ⟨_, fo_Main_60⟩ sh_0 (by decide) (rf_0_8 ld) ?_
    refine g_aload_n (pc1 := 23) d_Main_sure_22 rfl 0 rfl ?_
    refine g_getr (pc1 := 26) d_Main_sure_23 rfl ⟨_, fo_Main_26⟩ sh_0 (by decide) (rf_0_2 ld) ?_
    refine g_aload_n (pc1 := 27) d_Main_sure_26 rfl 0 rfl ?_
    refine g_getr (pc1 := 30) d_Main_sure_27 rfl ⟨_, fo_Main_36⟩ sh_0 (by decide) (rf_0_4 ld) ?_
    refine g_geti (pc1 := 33) d_Main_sure_30 rfl ⟨_, fo_Main_144⟩ (shSt_0 isSt_64) (ltSt_0 isSt_64) ?_
    refine g_iload_n (pc1 := 34) d_Main_sure_33 rfl 1 rfl ?_
    refine g_callV0 (pc1 := 37) (As := [.ref ld, .int (M 64 0), .int p1]) (rest := []) d_Main_sure_34 rfl mo_Main_278 mi_Told_gather mv_Told_gather rfl sh_383 (by decide) (by decide) rfl rfl (Nat.le_of_ble_eq_true rfl) ?_
    obtain ⟨M5, hq4, h⟩ := bnd h
    refine f_Told_gather hld hld hq4 ?_
    dsimp only [psh]
    refine g_aload_n (pc1 := 38) d_Main_sure_37 rfl 0 rfl ?_
    refine g_getr (pc1 := 41) d_Main_sure_38 rfl ⟨_, fo_Main_60⟩ sh_0 (by decide) (rf_0_8 ld) ?_
    refine g_callV0 (pc1 := 44) (As := []) (rest := []) d_Main_sure_41 rfl mo_Main_285 mi_Told_onlyDish mv_Told_onlyDish rfl sh_383 (by decide) (by decide) rfl rfl (Nat.le_of_ble_eq_true rfl) ?_
    obtain ⟨r7, hq6, h⟩ := bnd h
    refine f_Told_onlyDish hld  hq6 ?_
    dsimp only [psh]
    refine g_ireturn (Or.inl rfl) d_Main_sure_44 rfl ?_
    cases h; exact hQ
  · replace h := itp h c3
    refine g_iconst (pc1 := 17) (v := (-1)) d_Main_sure_16 rfl (by decide) ?_
    refine g_ireturn (Or.inl rfl) d_Main_sure_17 rfl ?_
    cases h; exact hQ

def F_Main_taste (ld : Nat) (p1 : Int32) (M : gM) : Option (Int32 × gM) :=
  bI (F_Main_isOne p1 ((M 383 3) + 1)) (fun r2 => (if r2 = 0 then some ((-1), M) else bI (F_Told_gather ld (M 64 0) p1 M) (fun M5 => bI2 (F_Told_nextTaste ld (M5 64 0) M5) (fun r7 M8 => some (r7, M8)))))
set_option maxHeartbeats 4000000 in
set_option maxRecDepth 20000 in
theorem f_Main_taste {l : Launch} {ld : Nat} {M : gM} {L : gL} {Q : Option Value → gM → gL → gR → Prop} (hld : isLa ld) {p1 : Int32}  {q : Int32 × gM} (h : F_Main_taste ld p1 M = some q) (hQ : Q (some (.int q.1)) q.2 L (rf ld)) : Tm l y_Main_taste (0, 0, 447) 447 [.ref 0, .int p1] M L (rf ld) Q := by
  refine Tm.of (by decide) (Nat.le_of_ble_eq_true rfl) ?_
  show Wp l y_Main_taste (0, 0, 447) 447 0 0 0 [(0, .ref 0), (1, .int p1)] [] M L (rf ld) Q
  unfold F_Main_taste at h
  refine g_iload_n (pc1 := 1) d_Main_taste_0 rfl 1 rfl ?_
  refine g_aload_n (pc1 := 2) d_Main_taste_1 rfl 0 rfl ?_
  refine g_getr (pc1 := 5) d_Main_taste_2 rfl ⟨_, fo_Main_60⟩ sh_0 (by decide) (rf_0_8 ld) ?_
  refine g_geti (pc1 := 8) d_Main_taste_5 rfl ⟨_, fo_Main_275⟩ sh_383 (by decide) ?_
  refine g_iconst (pc1 := 9) (v := 1) d_Main_taste_8 rfl (by decide) ?_
  refine g_iadd (pc1 := 10) d_Main_taste_9 rfl ?_
  refine g_callS0 (pc1 := 13) (As := [.int p1, .int ((M 383 3) + 1)]) (rest := []) d_Main_taste_10 rfl mo_Main_112 ms_Main_isOne (by decide) rfl rfl (Nat.le_of_ble_eq_true rfl) ?_
  obtain ⟨r2, hq1, h⟩ := bnd h
  refine f_Main_isOne hld  hq1 ?_
  dsimp only [psh]
  refine g_if_ne (pc1 := 16) (tgt := 18) d_Main_taste_13 (by decide) rfl (fun c3 => ?_) (fun c3 => ?_)
  · replace h := itn h c3
    refine g_aload_n (pc1 := 19) d_Main_taste_18 rfl 0 rfl ?_
    refine g_getr (pc1 := 22) d_Main_taste_19 rfl ⟨_, fo_Main_60⟩ sh_0 (by decide) (rf_0_8 ld) ?_
    refine g_aload_n (pc1 := 23) d_Main_taste_22 rfl 0 rfl ?_
    refine g_getr (pc1 := 26) d_Main_taste_23 rfl ⟨_, fo_Main_26⟩ sh_0 (by decide) (rf_0_2 ld) ?_
    refine g_aload_n (pc1 := 27) d_Main_taste_26 rfl 0 rfl ?_
    refine g_getr (pc1 := 30) d_Main_taste_27 rfl ⟨_, fo_Main_36⟩ sh_0 (by decide) (rf_0_4 ld) ?_
    refine g_geti (pc1 := 33) d_Main_taste_30 rfl ⟨_, fo_Main_144⟩ (shSt_0 isSt_64) (ltSt_0 isSt_64) ?_
    refine g_iload_n (pc1 := 34) d_Main_taste_33 rfl 1 rfl ?_
    refine g_callV0 (pc1 := 37) (As := [.ref ld, .int (M 64 0), .int p1]) (rest := []) d_Main_taste_34 rfl mo_Main_278 mi_Told_gather mv_Told_gather rfl sh_383 (by decide) (by decide) rfl rfl (Nat.le_of_ble_eq_true rfl) ?_
    obtain ⟨M5, hq4, h⟩ := bnd h
    refine f_Told_gather hld hld hq4 ?_
    dsimp only [psh]
    refine g_aload_n (pc1 := 38) d_Main_taste_37 rfl 0 rfl ?_
    refine g_getr (pc1 := 41) d_Main_taste_38 rfl ⟨_, fo_Main_60⟩ sh_0 (by decide) (rf_0_8 ld) ?_
    refine g_aload_n (pc1 := 42) d_Main_taste_41 rfl 0 rfl ?_
    refine g_getr (pc1 := 45) d_Main_taste_42 rfl ⟨_, fo_Main_26⟩ sh_0 (by decide) (rf_0_2 ld) ?_
    refine g_aload_n (pc1 := 46) d_Main_taste_45 rfl 0 rfl ?_
    refine g_getr (pc1 := 49) d_Main_taste_46 rfl ⟨_, fo_Main_36⟩ sh_0 (by decide) (rf_0_4 ld) ?_
    refine g_geti (pc1 := 52) d_Main_taste_49 rfl ⟨_, fo_Main_144⟩ (shSt_0 isSt_64) (ltSt_0 isSt_64) ?_
    refine g_callV0 (pc1 := 55) (As := [.ref ld, .int (M5 64 0)]) (rest := []) d_Main_taste_52 rfl mo_Main_288 mi_Told_nextTaste mv_Told_nextTaste rfl sh_383 (by decide) (by decide) rfl rfl (Nat.le_of_ble_eq_true rfl) ?_
    obtain ⟨r7, M8, hq6, h⟩ := bnd2 h
    refine f_Told_nextTaste hld hld hq6 ?_
    dsimp only [psh]
    refine g_ireturn (Or.inl rfl) d_Main_taste_55 rfl ?_
    cases h; exact hQ
  · replace h := itp h c3
    refine g_iconst (pc1 := 17) (v := (-1)) d_Main_taste_16 rfl (by decide) ?_
    refine g_ireturn (Or.inl rfl) d_Main_taste_17 rfl ?_
    cases h; exact hQ

def J_MenuSearch_find_107 (Ld1 : Nat) (X2 : Nat) (M : gM) : Option (Int32 × gM) :=
  (if 4 < (M 396 4) then some (0, M) else some (1, M))
set_option maxHeartbeats 4000000 in
set_option maxRecDepth 20000 in
theorem j_MenuSearch_find_107 {l : Launch} {ld : Nat} {Q : Option Value → gM → gL → gR → Prop} (hld : isLa ld) {Ld1 : Nat} {X2 : Nat} (hLd1 : isLa Ld1) (hX2 : isSt X2) {q : Int32 × gM} {M : gM} {L : gL} (hQ : Q (some (.int q.1)) q.2 L (rf ld))    (h : J_MenuSearch_find_107 Ld1 X2 M = some q) : Wp l y_MenuSearch_find (0, 0, 447) 447 0 0 107 [(0, .ref 396)] [] M L (rf ld) Q := by
  unfold J_MenuSearch_find_107 at h
  refine g_aload_n (pc1 := 108) d_MenuSearch_find_107 rfl 0 rfl ?_
  refine g_geti (pc1 := 111) d_MenuSearch_find_108 rfl ⟨_, fo_MenuSearch_43⟩ sh_396 (by decide) ?_
  refine g_iconst (pc1 := 112) (v := 4) d_MenuSearch_find_111 rfl (by decide) ?_
  refine g_icmp_gt (pc1 := 115) (tgt := 119) d_MenuSearch_find_112 (by decide) rfl (fun c9 => ?_) (fun c9 => ?_)
  · replace h := itp h c9
    refine g_iconst (pc1 := 120) (v := 0) d_MenuSearch_find_119 rfl (by decide) ?_
    refine g_ireturn (Or.inr ⟨rfl, rfl⟩) d_MenuSearch_find_120 rfl ?_
    cases h; exact hQ
  · replace h := itn h c9
    refine g_iconst (pc1 := 116) (v := 1) d_MenuSearch_find_115 rfl (by decide) ?_
    refine g_goto (tgt := 120) d_MenuSearch_find_116 (by decide) ?_
    refine g_ireturn (Or.inr ⟨rfl, rfl⟩) d_MenuSearch_find_120 rfl ?_
    cases h; exact hQ
def J_MenuSearch_find_98 (Ld1 : Nat) (X2 : Nat) (M : gM) : Option (Int32 × gM) :=
  J_MenuSearch_find_107 Ld1 X2 M
set_option maxHeartbeats 4000000 in
set_option maxRecDepth 20000 in
theorem j_MenuSearch_find_98 {l : Launch} {ld : Nat} {Q : Option Value → gM → gL → gR → Prop} (hld : isLa ld) {Ld1 : Nat} {X2 : Nat} (hLd1 : isLa Ld1) (hX2 : isSt X2) {q : Int32 × gM} {M : gM} {L : gL} (hQ : Q (some (.int q.1)) q.2 L (rf ld))    (h : J_MenuSearch_find_98 Ld1 X2 M = some q) : Wp l y_MenuSearch_find (0, 0, 447) 447 0 0 98 [(0, .ref 396)] [] M L (rf ld) Q := by
  unfold J_MenuSearch_find_98 at h
  refine g_goto (tgt := 107) d_MenuSearch_find_98 (by decide) ?_
  exact j_MenuSearch_find_107 hld hLd1 hX2 hQ  h
def J_MenuSearch_find_85 (Ld1 : Nat) (X2 : Nat) (K38 : Int32 → gM → Option (Int32 × gM)) (v4 : Int32) (v6 : Int32) (M : gM) : Option (Int32 × gM) :=
  bI2 (F_MenuSearch_step v4 (M Ld1 1) M) (fun r14 M15 => (if r14 = 0 then J_MenuSearch_find_98 Ld1 X2 M15 else nmI (v6 + 1) (fun x17 => K38 x17 M15)))
set_option maxHeartbeats 4000000 in
set_option maxRecDepth 20000 in
theorem j_MenuSearch_find_85 {l : Launch} {ld : Nat} {Q : Option Value → gM → gL → gR → Prop} (hld : isLa ld) {Ld1 : Nat} {X2 : Nat} (hLd1 : isLa Ld1) (hX2 : isSt X2) {q : Int32 × gM} {M : gM} {L : gL} (hQ : Q (some (.int q.1)) q.2 L (rf ld)) {K38 : Int32 → gM → Option (Int32 × gM)} {v4 : Int32} {v6 : Int32} (hK38 : ∀ (w6 : Int32) (M : gM), K38 w6 M = some q → Wp l y_MenuSearch_find (0, 0, 447) 447 0 0 38 [(0, .ref 396), (1, .ref Ld1), (4, .int v4), (6, .int w6)] [] M L (rf ld) Q) (h : J_MenuSearch_find_85 Ld1 X2 K38 v4 v6 M = some q) : Wp l y_MenuSearch_find (0, 0, 447) 447 0 0 85 [(0, .ref 396), (1, .ref Ld1), (4, .int v4), (6, .int v6)] [] M L (rf ld) Q := by
  unfold J_MenuSearch_find_85 at h
  refine g_aload_n (pc1 := 86) d_MenuSearch_find_85 rfl 0 rfl ?_
  refine g_iload (pc1 := 88) d_MenuSearch_find_86 rfl 2 rfl ?_
  refine g_aload_n (pc1 := 89) d_MenuSearch_find_88 rfl 1 rfl ?_
  refine g_geti (pc1 := 92) d_MenuSearch_find_89 rfl ⟨_, fo_MenuSearch_54⟩ (shLa_0 hLd1) (ltLa_0 hLd1) ?_
  refine g_callV0 (pc1 := 95) (As := [.int v4, .int (M Ld1 1)]) (rest := []) d_MenuSearch_find_92 rfl mo_MenuSearch_59 mi_MenuSearch_step mv_MenuSearch_step rfl sh_396 (by decide) (by decide) rfl rfl (Nat.le_of_ble_eq_true rfl) ?_
  obtain ⟨r14, M15, hq13, h⟩ := bnd2 h
  refine f_MenuSearch_step hld  hq13 ?_
  dsimp only [psh]
  refine g_if_ne (pc1 := 98) (tgt := 101) d_MenuSearch_find_95 (by decide) rfl (fun c16 => ?_) (fun c16 => ?_)
  · replace h := itn h c16
    obtain ⟨x17, ex17, h⟩ := ltI h
    refine g_iinc (pc1 := 104) (v := x17) (lv' := [(0, .ref 396), (1, .ref Ld1), (4, .int v4), (6, .int x17)]) d_MenuSearch_find_101 rfl 3 rfl (by rw [ex17]; rfl) (by decide) [1, 2, 3, 0] rfl ?_
    refine g_goto (tgt := 38) d_MenuSearch_find_104 (by decide) ?_
    exact hK38 x17 M15 h
  · replace h := itp h c16
    refine Wp.loc (lv' := [(0, .ref 396)]) [0] rfl ?_
    exact j_MenuSearch_find_98 hld hLd1 hX2 hQ  h
def B_MenuSearch_find_38 (Ld1 : Nat) (X2 : Nat) (v4 : Int32) (K38 : Int32 → gM → Option (Int32 × gM)) : Int32 → gM → Option (Int32 × gM) := fun v6 M =>
  (if 1296 ≤ v6 then J_MenuSearch_find_107 Ld1 X2 M else bI (F_MenuSearch_mealsIfAllFree v4 M) (fun r11 => (if r11 < 0 then J_MenuSearch_find_85 Ld1 X2 K38 v4 v6 M else (if (M 396 4) ≤ r11 then J_MenuSearch_find_85 Ld1 X2 K38 v4 v6 M else nmM (uM M 396 4 r11) (fun M19 => bI (F_Main_copyRow 399 4 400 4 M19) (fun M21 => J_MenuSearch_find_85 Ld1 X2 K38 v4 v6 M21))))))
def H_MenuSearch_find_38 (Ld1 : Nat) (X2 : Nat) (v4 : Int32) : Nat → Int32 → gM → Option (Int32 × gM) := lpK (B_MenuSearch_find_38 Ld1 X2 v4) (fun _ _ => none)
set_option maxHeartbeats 4000000 in
set_option maxRecDepth 20000 in
theorem h_MenuSearch_find_38 {l : Launch} {ld : Nat} {Q : Option Value → gM → gL → gR → Prop} (hld : isLa ld) {Ld1 : Nat} {X2 : Nat} (hLd1 : isLa Ld1) (hX2 : isSt X2) {q : Int32 × gM} {L : gL} (hQ : Q (some (.int q.1)) q.2 L (rf ld))  {v4 : Int32}  : ∀ (f : Nat) (v6 : Int32) (M : gM), H_MenuSearch_find_38 Ld1 X2 v4 f v6 M = some q → Wp l y_MenuSearch_find (0, 0, 447) 447 0 0 38 [(0, .ref 396), (1, .ref Ld1), (4, .int v4), (6, .int v6)] [] M L (rf ld) Q := by
  intro f
  induction f with
  | zero => intro v6 M h; cases h
  | succ f hK38 =>
    intro v6 M h
    replace h : B_MenuSearch_find_38 Ld1 X2 v4 (H_MenuSearch_find_38 Ld1 X2 v4 f) v6 M = some q := h
    unfold B_MenuSearch_find_38 at h
    refine g_iload (pc1 := 40) d_MenuSearch_find_38 rfl 3 rfl ?_
    refine g_sipush (pc1 := 43) (v := 1296) d_MenuSearch_find_40 rfl (by decide) ?_
    refine g_icmp_ge (pc1 := 46) (tgt := 107) d_MenuSearch_find_43 (by decide) rfl (fun c8 => ?_) (fun c8 => ?_)
    · replace h := itp h c8
      refine Wp.loc (lv' := [(0, .ref 396)]) [0] rfl ?_
      exact j_MenuSearch_find_107 hld hLd1 hX2 hQ  h
    · replace h := itn h c8
      refine g_aload_n (pc1 := 47) d_MenuSearch_find_46 rfl 0 rfl ?_
      refine g_iload (pc1 := 49) d_MenuSearch_find_47 rfl 2 rfl ?_
      refine g_callV0 (pc1 := 52) (As := [.int v4]) (rest := []) d_MenuSearch_find_49 rfl mo_MenuSearch_46 mi_MenuSearch_mealsIfAllFree mv_MenuSearch_mealsIfAllFree rfl sh_396 (by decide) (by decide) rfl rfl (Nat.le_of_ble_eq_true rfl) ?_
      obtain ⟨r11, hq10, h⟩ := bnd h
      refine f_MenuSearch_mealsIfAllFree hld  hq10 ?_
      dsimp only [psh]
      refine g_istore (pc1 := 54) (lv' := [(0, .ref 396), (1, .ref Ld1), (4, .int v4), (6, .int v6), (7, .int r11)]) d_MenuSearch_find_52 rfl (by decide) [1, 2, 3, 4, 0] rfl ?_
      refine g_iload (pc1 := 56) d_MenuSearch_find_54 rfl 4 rfl ?_
      refine g_if_lt (pc1 := 59) (tgt := 85) d_MenuSearch_find_56 (by decide) rfl (fun c12 => ?_) (fun c12 => ?_)
      · replace h := itp h c12
        refine Wp.loc (lv' := [(0, .ref 396), (1, .ref Ld1), (4, .int v4), (6, .int v6)]) [0, 1, 2, 3] rfl ?_
        exact j_MenuSearch_find_85 hld hLd1 hX2 hQ hK38 h
      · replace h := itn h c12
        refine g_iload (pc1 := 61) d_MenuSearch_find_59 rfl 4 rfl ?_
        refine g_aload_n (pc1 := 62) d_MenuSearch_find_61 rfl 0 rfl ?_
        refine g_geti (pc1 := 65) d_MenuSearch_find_62 rfl ⟨_, fo_MenuSearch_43⟩ sh_396 (by decide) ?_
        refine g_icmp_ge (pc1 := 68) (tgt := 85) d_MenuSearch_find_65 (by decide) rfl (fun c18 => ?_) (fun c18 => ?_)
        · replace h := itp h c18
          refine Wp.loc (lv' := [(0, .ref 396), (1, .ref Ld1), (4, .int v4), (6, .int v6)]) [0, 1, 2, 3] rfl ?_
          exact j_MenuSearch_find_85 hld hLd1 hX2 hQ hK38 h
        · replace h := itn h c18
          refine g_aload_n (pc1 := 69) d_MenuSearch_find_68 rfl 0 rfl ?_
          refine g_iload (pc1 := 71) d_MenuSearch_find_69 rfl 4 rfl ?_
          refine g_puti (pc1 := 74) d_MenuSearch_find_71 rfl fo_MenuSearch_43 (po_11_4 _) sh_396 (by decide) ?_
          refine Wp.lM h (fun M19 h => ?_)
          refine g_aload_n (pc1 := 75) d_MenuSearch_find_74 rfl 0 rfl ?_
          refine g_getr (pc1 := 78) d_MenuSearch_find_75 rfl ⟨_, fo_MenuSearch_18⟩ sh_396 (by decide) (rf_396_2 ld) ?_
          refine g_aload_n (pc1 := 79) d_MenuSearch_find_78 rfl 0 rfl ?_
          refine g_getr (pc1 := 82) d_MenuSearch_find_79 rfl ⟨_, fo_MenuSearch_22⟩ sh_396 (by decide) (rf_396_3 ld) ?_
          refine g_callS0 (pc1 := 85) (As := [.ref 399, .ref 400]) (rest := []) d_MenuSearch_find_82 rfl mo_MenuSearch_50 ms_Main_copyRow (by decide) rfl rfl (Nat.le_of_ble_eq_true rfl) ?_
          obtain ⟨M21, hq20, h⟩ := bnd h
          refine f_Main_copyRow hld sh_399 (by decide) (by decide) sh_400 (by decide) (by decide) hq20 ?_
          dsimp only [psh]
          refine Wp.loc (lv' := [(0, .ref 396), (1, .ref Ld1), (4, .int v4), (6, .int v6)]) [0, 1, 2, 3] rfl ?_
          exact j_MenuSearch_find_85 hld hLd1 hX2 hQ hK38 h
def F_MenuSearch_find (Ld1 : Nat) (X2 : Nat) (p3 : Int32) (p4 : Int32) (p5 : Int32) (M : gM) : Option (Int32 × gM) :=
  bI (F_MenuSearch_lookUnfed Ld1 X2 p3 p5 M) (fun M2 => bI (F_MenuSearch_lookFed Ld1 (M2 X2 0) p3 p4 p5 M2) (fun M4 => bI (F_Main_wipe 399 4 M4) (fun M6 => nmM (uM M6 396 4 5) (fun M7 => H_MenuSearch_find_38 Ld1 X2 p4 FU 0 M7))))
set_option maxHeartbeats 4000000 in
set_option maxRecDepth 20000 in
theorem f_MenuSearch_find {l : Launch} {ld : Nat} {M : gM} {L : gL} {Q : Option Value → gM → gL → gR → Prop} (hld : isLa ld) {Ld1 : Nat} {X2 : Nat} {p3 : Int32} {p4 : Int32} {p5 : Int32} (hLd1 : isLa Ld1) (hX2 : isSt X2) {q : Int32 × gM} (h : F_MenuSearch_find Ld1 X2 p3 p4 p5 M = some q) (hQ : Q (some (.int q.1)) q.2 L (rf ld)) : Tm l y_MenuSearch_find (0, 0, 447) 447 [.ref 396, .ref Ld1, .ref X2, .int p3, .int p4, .int p5] M L (rf ld) Q := by
  refine Tm.of (by decide) (Nat.le_of_ble_eq_true rfl) ?_
  show Wp l y_MenuSearch_find (0, 0, 447) 447 0 0 0 [(0, .ref 396), (1, .ref Ld1), (2, .ref X2), (3, .int p3), (4, .int p4), (5, .int p5)] [] M L (rf ld) Q
  unfold F_MenuSearch_find at h
  refine g_aload_n (pc1 := 1) d_MenuSearch_find_0 rfl 0 rfl ?_
  refine g_aload_n (pc1 := 2) d_MenuSearch_find_1 rfl 1 rfl ?_
  refine g_aload_n (pc1 := 3) d_MenuSearch_find_2 rfl 2 rfl ?_
  refine g_iload_n (pc1 := 4) d_MenuSearch_find_3 rfl 3 rfl ?_
  refine g_iload (pc1 := 6) d_MenuSearch_find_4 rfl 5 rfl ?_
  refine g_callV0 (pc1 := 9) (As := [.ref Ld1, .ref X2, .int p3, .int p5]) (rest := []) d_MenuSearch_find_6 rfl mo_MenuSearch_25 mi_MenuSearch_lookUnfed mv_MenuSearch_lookUnfed rfl sh_396 (by decide) (by decide) rfl rfl (Nat.le_of_ble_eq_true rfl) ?_
  obtain ⟨M2, hq1, h⟩ := bnd h
  refine f_MenuSearch_lookUnfed hld hLd1 hX2 hq1 ?_
  dsimp only [psh]
  refine g_aload_n (pc1 := 10) d_MenuSearch_find_9 rfl 0 rfl ?_
  refine g_aload_n (pc1 := 11) d_MenuSearch_find_10 rfl 1 rfl ?_
  refine g_aload_n (pc1 := 12) d_MenuSearch_find_11 rfl 2 rfl ?_
  refine g_geti (pc1 := 15) d_MenuSearch_find_12 rfl ⟨_, fo_MenuSearch_29⟩ (shSt_0 hX2) (ltSt_0 hX2) ?_
  refine g_iload_n (pc1 := 16) d_MenuSearch_find_15 rfl 3 rfl ?_
  refine g_iload (pc1 := 18) d_MenuSearch_find_16 rfl 4 rfl ?_
  refine g_iload (pc1 := 20) d_MenuSearch_find_18 rfl 5 rfl ?_
  refine g_callV0 (pc1 := 23) (As := [.ref Ld1, .int (M2 X2 0), .int p3, .int p4, .int p5]) (rest := []) d_MenuSearch_find_20 rfl mo_MenuSearch_35 mi_MenuSearch_lookFed mv_MenuSearch_lookFed rfl sh_396 (by decide) (by decide) rfl rfl (Nat.le_of_ble_eq_true rfl) ?_
  obtain ⟨M4, hq3, h⟩ := bnd h
  refine f_MenuSearch_lookFed hld hLd1 hq3 ?_
  dsimp only [psh]
  refine g_aload_n (pc1 := 24) d_MenuSearch_find_23 rfl 0 rfl ?_
  refine g_getr (pc1 := 27) d_MenuSearch_find_24 rfl ⟨_, fo_MenuSearch_18⟩ sh_396 (by decide) (rf_396_2 ld) ?_
  refine g_callS0 (pc1 := 30) (As := [.ref 399]) (rest := []) d_MenuSearch_find_27 rfl mo_MenuSearch_39 ms_Main_wipe (by decide) rfl rfl (Nat.le_of_ble_eq_true rfl) ?_
  obtain ⟨M6, hq5, h⟩ := bnd h
  refine f_Main_wipe hld sh_399 (by decide) (by decide) hq5 ?_
  dsimp only [psh]
  refine g_aload_n (pc1 := 31) d_MenuSearch_find_30 rfl 0 rfl ?_
  refine g_iconst (pc1 := 32) (v := 5) d_MenuSearch_find_31 rfl (by decide) ?_
  refine g_puti (pc1 := 35) d_MenuSearch_find_32 rfl fo_MenuSearch_43 (po_11_4 _) sh_396 (by decide) ?_
  refine Wp.lM h (fun M7 h => ?_)
  refine g_iconst (pc1 := 36) (v := 0) d_MenuSearch_find_35 rfl (by decide) ?_
  refine g_istore (pc1 := 38) (lv' := [(0, .ref 396), (1, .ref Ld1), (2, .ref X2), (3, .int p3), (4, .int p4), (5, .int p5), (6, .int 0)]) d_MenuSearch_find_36 rfl (by decide) [1, 2, 3, 4, 5, 6, 0] rfl ?_
  refine Wp.loc (lv' := [(0, .ref 396), (1, .ref Ld1), (4, .int p4), (6, .int 0)]) [0, 1, 4, 6] rfl ?_
  exact h_MenuSearch_find_38 hld hLd1 hX2 hQ  _ 0 M7 h

def F_Main_freest (ld : Nat) (p1 : Int32) (p2 : Int32) (M : gM) : Option (Int32 × gM) :=
  bI (F_Main_isOne p1 (M ld 2)) (fun r2 => (if r2 = 0 then some ((-1), M) else bI (F_Main_isOne p2 2) (fun r5 => (if r5 = 0 then some ((-1), M) else (if (M ld 1) = 0 then some ((-2), M) else bI2 (F_Main_freestDish ld p1 M) (fun r9 M10 => (if p2 = 0 then some (r9, M10) else bI2 (F_Main_freeBehind ld p1 r9 M10) (fun r13 M14 => bI (F_Int_bitCount r13) (fun r16 => some (r16, M14))))))))))
set_option maxHeartbeats 4000000 in
set_option maxRecDepth 20000 in
theorem f_Main_freest {l : Launch} {ld : Nat} {M : gM} {L : gL} {Q : Option Value → gM → gL → gR → Prop} (hld : isLa ld) {p1 : Int32} {p2 : Int32}  {q : Int32 × gM} (h : F_Main_freest ld p1 p2 M = some q) (hQ : Q (some (.int q.1)) q.2 L (rf ld)) : Tm l y_Main_freest (0, 0, 447) 447 [.ref 0, .int p1, .int p2] M L (rf ld) Q := by
  refine Tm.of (by decide) (Nat.le_of_ble_eq_true rfl) ?_
  show Wp l y_Main_freest (0, 0, 447) 447 0 0 0 [(0, .ref 0), (1, .int p1), (2, .int p2)] [] M L (rf ld) Q
  unfold F_Main_freest at h
  refine g_iload_n (pc1 := 1) d_Main_freest_0 rfl 1 rfl ?_
  refine g_aload_n (pc1 := 2) d_Main_freest_1 rfl 0 rfl ?_
  refine g_getr (pc1 := 5) d_Main_freest_2 rfl ⟨_, fo_Main_26⟩ sh_0 (by decide) (rf_0_2 ld) ?_
  refine g_geti (pc1 := 8) d_Main_freest_5 rfl ⟨_, fo_Main_157⟩ (shLa_0 hld) (ltLa_0 hld) ?_
  refine g_callS0 (pc1 := 11) (As := [.int p1, .int (M ld 2)]) (rest := []) d_Main_freest_8 rfl mo_Main_112 ms_Main_isOne (by decide) rfl rfl (Nat.le_of_ble_eq_true rfl) ?_
  obtain ⟨r2, hq1, h⟩ := bnd h
  refine f_Main_isOne hld  hq1 ?_
  dsimp only [psh]
  refine g_if_eq (pc1 := 14) (tgt := 22) d_Main_freest_11 (by decide) rfl (fun c3 => ?_) (fun c3 => ?_)
  · replace h := itp h c3
    refine g_iconst (pc1 := 23) (v := (-1)) d_Main_freest_22 rfl (by decide) ?_
    refine g_ireturn (Or.inl rfl) d_Main_freest_23 rfl ?_
    cases h; exact hQ
  · replace h := itn h c3
    refine g_iload_n (pc1 := 15) d_Main_freest_14 rfl 2 rfl ?_
    refine g_iconst (pc1 := 16) (v := 2) d_Main_freest_15 rfl (by decide) ?_
    refine g_callS0 (pc1 := 19) (As := [.int p2, .int 2]) (rest := []) d_Main_freest_16 rfl mo_Main_112 ms_Main_isOne (by decide) rfl rfl (Nat.le_of_ble_eq_true rfl) ?_
    obtain ⟨r5, hq4, h⟩ := bnd h
    refine f_Main_isOne hld  hq4 ?_
    dsimp only [psh]
    refine g_if_ne (pc1 := 22) (tgt := 24) d_Main_freest_19 (by decide) rfl (fun c6 => ?_) (fun c6 => ?_)
    · replace h := itn h c6
      refine g_aload_n (pc1 := 25) d_Main_freest_24 rfl 0 rfl ?_
      refine g_getr (pc1 := 28) d_Main_freest_25 rfl ⟨_, fo_Main_26⟩ sh_0 (by decide) (rf_0_2 ld) ?_
      refine g_geti (pc1 := 31) d_Main_freest_28 rfl ⟨_, fo_Main_131⟩ (shLa_0 hld) (ltLa_0 hld) ?_
      refine g_if_ne (pc1 := 34) (tgt := 37) d_Main_freest_31 (by decide) rfl (fun c7 => ?_) (fun c7 => ?_)
      · replace h := itn h c7
        refine g_aload_n (pc1 := 38) d_Main_freest_37 rfl 0 rfl ?_
        refine g_iload_n (pc1 := 39) d_Main_freest_38 rfl 1 rfl ?_
        refine g_callV0 (pc1 := 42) (As := [.int p1]) (rest := []) d_Main_freest_39 rfl mo_Main_243 mi_Main_freestDish mv_Main_freestDish rfl sh_0 (by decide) (by decide) rfl rfl (Nat.le_of_ble_eq_true rfl) ?_
        obtain ⟨r9, M10, hq8, h⟩ := bnd2 h
        refine f_Main_freestDish hld  hq8 ?_
        dsimp only [psh]
        refine g_istore_n (pc1 := 43) (lv' := [(0, .ref 0), (1, .int p1), (2, .int p2), (3, .int r9)]) d_Main_freest_42 rfl rfl (by decide) [1, 2, 3, 0] rfl ?_
        refine g_iload_n (pc1 := 44) d_Main_freest_43 rfl 2 rfl ?_
        refine g_if_ne (pc1 := 47) (tgt := 51) d_Main_freest_44 (by decide) rfl (fun c11 => ?_) (fun c11 => ?_)
        · replace h := itn h c11
          refine g_aload_n (pc1 := 52) d_Main_freest_51 rfl 0 rfl ?_
          refine g_iload_n (pc1 := 53) d_Main_freest_52 rfl 1 rfl ?_
          refine g_iload_n (pc1 := 54) d_Main_freest_53 rfl 3 rfl ?_
          refine g_callV0 (pc1 := 57) (As := [.int p1, .int r9]) (rest := []) d_Main_freest_54 rfl mo_Main_246 mi_Main_freeBehind mv_Main_freeBehind rfl sh_0 (by decide) (by decide) rfl rfl (Nat.le_of_ble_eq_true rfl) ?_
          obtain ⟨r13, M14, hq12, h⟩ := bnd2 h
          refine f_Main_freeBehind hld  hq12 ?_
          dsimp only [psh]
          refine g_callS0 (pc1 := 60) (As := [.int r13]) (rest := []) d_Main_freest_57 rfl mo_Main_249 ms_Int_bitCount (by decide) rfl rfl (Nat.le_of_ble_eq_true rfl) ?_
          obtain ⟨r16, hq15, h⟩ := bnd h
          refine f_Int_bitCount hld  hq15 ?_
          dsimp only [psh]
          refine g_ireturn (Or.inl rfl) d_Main_freest_60 rfl ?_
          cases h; exact hQ
        · replace h := itp h c11
          refine g_iload_n (pc1 := 48) d_Main_freest_47 rfl 3 rfl ?_
          refine g_goto (tgt := 60) d_Main_freest_48 (by decide) ?_
          refine g_ireturn (Or.inl rfl) d_Main_freest_60 rfl ?_
          cases h; exact hQ
      · replace h := itp h c7
        refine g_bipush (pc1 := 36) (v := (-2)) d_Main_freest_34 rfl (by decide) ?_
        refine g_ireturn (Or.inl rfl) d_Main_freest_36 rfl ?_
        cases h; exact hQ
    · replace h := itp h c6
      refine g_iconst (pc1 := 23) (v := (-1)) d_Main_freest_22 rfl (by decide) ?_
      refine g_ireturn (Or.inl rfl) d_Main_freest_23 rfl ?_
      cases h; exact hQ

def F_Main_menu (ld : Nat) (p1 : Int32) (p2 : Int32) (p3 : Int32) (p4 : Int32) (M : gM) : Option (Int32 × gM) :=
  bI (F_Main_isOne p1 (M ld 2)) (fun r2 => (if r2 = 0 then some ((-1), M) else (if p2 < 1 then some ((-1), M) else (if 4 < p2 then some ((-1), M) else bI (F_Main_isOne p3 (1 <<< ((M ld 3) &&& 31))) (fun r7 => (if r7 = 0 then some ((-1), M) else (if p4 < (-1) then some ((-1), M) else (if p4 < p2 then bI2 (F_MenuSearch_find ld 64 p1 p2 p3 M) (fun r12 M13 => (if r12 = 0 then (if p4 = (-1) then some ((-2), M13) else some ((-3), M13)) else (if p4 = (-1) then some ((M13 396 4), M13) else bI (F_Main_at 400 4 p4 M13) (fun r17 => (if r17 = 0 then some ((-2), M13) else some ((r17 - 1), M13)))))) else some ((-1), M)))))))))
set_option maxHeartbeats 4000000 in
set_option maxRecDepth 20000 in
theorem f_Main_menu {l : Launch} {ld : Nat} {M : gM} {L : gL} {Q : Option Value → gM → gL → gR → Prop} (hld : isLa ld) {p1 : Int32} {p2 : Int32} {p3 : Int32} {p4 : Int32}  {q : Int32 × gM} (h : F_Main_menu ld p1 p2 p3 p4 M = some q) (hQ : Q (some (.int q.1)) q.2 L (rf ld)) : Tm l y_Main_menu (0, 0, 447) 447 [.ref 0, .int p1, .int p2, .int p3, .int p4] M L (rf ld) Q := by
  refine Tm.of (by decide) (Nat.le_of_ble_eq_true rfl) ?_
  show Wp l y_Main_menu (0, 0, 447) 447 0 0 0 [(0, .ref 0), (1, .int p1), (2, .int p2), (3, .int p3), (4, .int p4)] [] M L (rf ld) Q
  unfold F_Main_menu at h
  refine g_iload_n (pc1 := 1) d_Main_menu_0 rfl 1 rfl ?_
  refine g_aload_n (pc1 := 2) d_Main_menu_1 rfl 0 rfl ?_
  refine g_getr (pc1 := 5) d_Main_menu_2 rfl ⟨_, fo_Main_26⟩ sh_0 (by decide) (rf_0_2 ld) ?_
  refine g_geti (pc1 := 8) d_Main_menu_5 rfl ⟨_, fo_Main_157⟩ (shLa_0 hld) (ltLa_0 hld) ?_
  refine g_callS0 (pc1 := 11) (As := [.int p1, .int (M ld 2)]) (rest := []) d_Main_menu_8 rfl mo_Main_112 ms_Main_isOne (by decide) rfl rfl (Nat.le_of_ble_eq_true rfl) ?_
  obtain ⟨r2, hq1, h⟩ := bnd h
  refine f_Main_isOne hld  hq1 ?_
  dsimp only [psh]
  refine g_if_eq (pc1 := 14) (tgt := 40) d_Main_menu_11 (by decide) rfl (fun c3 => ?_) (fun c3 => ?_)
  · replace h := itp h c3
    refine g_iconst (pc1 := 41) (v := (-1)) d_Main_menu_40 rfl (by decide) ?_
    refine g_ireturn (Or.inl rfl) d_Main_menu_41 rfl ?_
    cases h; exact hQ
  · replace h := itn h c3
    refine g_iload_n (pc1 := 15) d_Main_menu_14 rfl 2 rfl ?_
    refine g_iconst (pc1 := 16) (v := 1) d_Main_menu_15 rfl (by decide) ?_
    refine g_icmp_lt (pc1 := 19) (tgt := 40) d_Main_menu_16 (by decide) rfl (fun c4 => ?_) (fun c4 => ?_)
    · replace h := itp h c4
      refine g_iconst (pc1 := 41) (v := (-1)) d_Main_menu_40 rfl (by decide) ?_
      refine g_ireturn (Or.inl rfl) d_Main_menu_41 rfl ?_
      cases h; exact hQ
    · replace h := itn h c4
      refine g_iload_n (pc1 := 20) d_Main_menu_19 rfl 2 rfl ?_
      refine g_iconst (pc1 := 21) (v := 4) d_Main_menu_20 rfl (by decide) ?_
      refine g_icmp_gt (pc1 := 24) (tgt := 40) d_Main_menu_21 (by decide) rfl (fun c5 => ?_) (fun c5 => ?_)
      · replace h := itp h c5
        refine g_iconst (pc1 := 41) (v := (-1)) d_Main_menu_40 rfl (by decide) ?_
        refine g_ireturn (Or.inl rfl) d_Main_menu_41 rfl ?_
        cases h; exact hQ
      · replace h := itn h c5
        refine g_iload_n (pc1 := 25) d_Main_menu_24 rfl 3 rfl ?_
        refine g_iconst (pc1 := 26) (v := 1) d_Main_menu_25 rfl (by decide) ?_
        refine g_aload_n (pc1 := 27) d_Main_menu_26 rfl 0 rfl ?_
        refine g_getr (pc1 := 30) d_Main_menu_27 rfl ⟨_, fo_Main_26⟩ sh_0 (by decide) (rf_0_2 ld) ?_
        refine g_geti (pc1 := 33) d_Main_menu_30 rfl ⟨_, fo_Main_177⟩ (shLa_0 hld) (ltLa_0 hld) ?_
        refine g_ishl (pc1 := 34) d_Main_menu_33 rfl ?_
        refine g_callS0 (pc1 := 37) (As := [.int p3, .int (1 <<< ((M ld 3) &&& 31))]) (rest := []) d_Main_menu_34 rfl mo_Main_112 ms_Main_isOne (by decide) rfl rfl (Nat.le_of_ble_eq_true rfl) ?_
        obtain ⟨r7, hq6, h⟩ := bnd h
        refine f_Main_isOne hld  hq6 ?_
        dsimp only [psh]
        refine g_if_ne (pc1 := 40) (tgt := 42) d_Main_menu_37 (by decide) rfl (fun c8 => ?_) (fun c8 => ?_)
        · replace h := itn h c8
          refine g_iload (pc1 := 44) d_Main_menu_42 rfl 4 rfl ?_
          refine g_iconst (pc1 := 45) (v := (-1)) d_Main_menu_44 rfl (by decide) ?_
          refine g_icmp_lt (pc1 := 48) (tgt := 54) d_Main_menu_45 (by decide) rfl (fun c9 => ?_) (fun c9 => ?_)
          · replace h := itp h c9
            refine g_iconst (pc1 := 55) (v := (-1)) d_Main_menu_54 rfl (by decide) ?_
            refine g_ireturn (Or.inl rfl) d_Main_menu_55 rfl ?_
            cases h; exact hQ
          · replace h := itn h c9
            refine g_iload (pc1 := 50) d_Main_menu_48 rfl 4 rfl ?_
            refine g_iload_n (pc1 := 51) d_Main_menu_50 rfl 2 rfl ?_
            refine g_icmp_lt (pc1 := 54) (tgt := 56) d_Main_menu_51 (by decide) rfl (fun c10 => ?_) (fun c10 => ?_)
            · replace h := itp h c10
              refine g_aload_n (pc1 := 57) d_Main_menu_56 rfl 0 rfl ?_
              refine g_getr (pc1 := 60) d_Main_menu_57 rfl ⟨_, fo_Main_74⟩ sh_0 (by decide) (rf_0_10 ld) ?_
              refine g_aload_n (pc1 := 61) d_Main_menu_60 rfl 0 rfl ?_
              refine g_getr (pc1 := 64) d_Main_menu_61 rfl ⟨_, fo_Main_26⟩ sh_0 (by decide) (rf_0_2 ld) ?_
              refine g_aload_n (pc1 := 65) d_Main_menu_64 rfl 0 rfl ?_
              refine g_getr (pc1 := 68) d_Main_menu_65 rfl ⟨_, fo_Main_36⟩ sh_0 (by decide) (rf_0_4 ld) ?_
              refine g_iload_n (pc1 := 69) d_Main_menu_68 rfl 1 rfl ?_
              refine g_iload_n (pc1 := 70) d_Main_menu_69 rfl 2 rfl ?_
              refine g_iload_n (pc1 := 71) d_Main_menu_70 rfl 3 rfl ?_
              refine g_callV0 (pc1 := 74) (As := [.ref ld, .ref 64, .int p1, .int p2, .int p3]) (rest := []) d_Main_menu_71 rfl mo_Main_257 mi_MenuSearch_find mv_MenuSearch_find rfl sh_396 (by decide) (by decide) rfl rfl (Nat.le_of_ble_eq_true rfl) ?_
              obtain ⟨r12, M13, hq11, h⟩ := bnd2 h
              refine f_MenuSearch_find hld hld isSt_64 hq11 ?_
              dsimp only [psh]
              refine g_if_ne (pc1 := 77) (tgt := 91) d_Main_menu_74 (by decide) rfl (fun c14 => ?_) (fun c14 => ?_)
              · replace h := itn h c14
                refine g_iload (pc1 := 93) d_Main_menu_91 rfl 4 rfl ?_
                refine g_iconst (pc1 := 94) (v := (-1)) d_Main_menu_93 rfl (by decide) ?_
                refine g_icmp_ne (pc1 := 97) (tgt := 105) d_Main_menu_94 (by decide) rfl (fun c15 => ?_) (fun c15 => ?_)
                · replace h := itn h c15
                  refine g_aload_n (pc1 := 106) d_Main_menu_105 rfl 0 rfl ?_
                  refine g_getr (pc1 := 109) d_Main_menu_106 rfl ⟨_, fo_Main_74⟩ sh_0 (by decide) (rf_0_10 ld) ?_
                  refine g_getr (pc1 := 112) d_Main_menu_109 rfl ⟨_, fo_Main_261⟩ sh_396 (by decide) (rf_396_3 ld) ?_
                  refine g_iload (pc1 := 114) d_Main_menu_112 rfl 4 rfl ?_
                  refine g_callS0 (pc1 := 117) (As := [.ref 400, .int p4]) (rest := []) d_Main_menu_114 rfl mo_Main_120 ms_Main_at (by decide) rfl rfl (Nat.le_of_ble_eq_true rfl) ?_
                  obtain ⟨r17, hq16, h⟩ := bnd h
                  refine f_Main_at hld sh_400 (by decide) (by decide) hq16 ?_
                  dsimp only [psh]
                  refine g_istore (pc1 := 119) (lv' := [(0, .ref 0), (1, .int p1), (2, .int p2), (3, .int p3), (4, .int p4), (5, .int r17)]) d_Main_menu_117 rfl (by decide) [1, 2, 3, 4, 5, 0] rfl ?_
                  refine g_iload (pc1 := 121) d_Main_menu_119 rfl 5 rfl ?_
                  refine g_if_ne (pc1 := 124) (tgt := 129) d_Main_menu_121 (by decide) rfl (fun c18 => ?_) (fun c18 => ?_)
                  · replace h := itn h c18
                    refine g_iload (pc1 := 131) d_Main_menu_129 rfl 5 rfl ?_
                    refine g_iconst (pc1 := 132) (v := 1) d_Main_menu_131 rfl (by decide) ?_
                    refine g_isub (pc1 := 133) d_Main_menu_132 rfl ?_
                    refine g_ireturn (Or.inl rfl) d_Main_menu_133 rfl ?_
                    cases h; exact hQ
                  · replace h := itp h c18
                    refine g_bipush (pc1 := 126) (v := (-2)) d_Main_menu_124 rfl (by decide) ?_
                    refine g_goto (tgt := 133) d_Main_menu_126 (by decide) ?_
                    refine g_ireturn (Or.inl rfl) d_Main_menu_133 rfl ?_
                    cases h; exact hQ
                · replace h := itp h c15
                  refine g_aload_n (pc1 := 98) d_Main_menu_97 rfl 0 rfl ?_
                  refine g_getr (pc1 := 101) d_Main_menu_98 rfl ⟨_, fo_Main_74⟩ sh_0 (by decide) (rf_0_10 ld) ?_
                  refine g_geti (pc1 := 104) d_Main_menu_101 rfl ⟨_, fo_Main_258⟩ sh_396 (by decide) ?_
                  refine g_ireturn (Or.inl rfl) d_Main_menu_104 rfl ?_
                  cases h; exact hQ
              · replace h := itp h c14
                refine g_iload (pc1 := 79) d_Main_menu_77 rfl 4 rfl ?_
                refine g_iconst (pc1 := 80) (v := (-1)) d_Main_menu_79 rfl (by decide) ?_
                refine g_icmp_ne (pc1 := 83) (tgt := 88) d_Main_menu_80 (by decide) rfl (fun c19 => ?_) (fun c19 => ?_)
                · replace h := itn h c19
                  refine g_bipush (pc1 := 90) (v := (-3)) d_Main_menu_88 rfl (by decide) ?_
                  refine g_ireturn (Or.inl rfl) d_Main_menu_90 rfl ?_
                  cases h; exact hQ
                · replace h := itp h c19
                  refine g_bipush (pc1 := 85) (v := (-2)) d_Main_menu_83 rfl (by decide) ?_
                  refine g_goto (tgt := 90) d_Main_menu_85 (by decide) ?_
                  refine g_ireturn (Or.inl rfl) d_Main_menu_90 rfl ?_
                  cases h; exact hQ
            · replace h := itn h c10
              refine g_iconst (pc1 := 55) (v := (-1)) d_Main_menu_54 rfl (by decide) ?_
              refine g_ireturn (Or.inl rfl) d_Main_menu_55 rfl ?_
              cases h; exact hQ
        · replace h := itp h c8
          refine g_iconst (pc1 := 41) (v := (-1)) d_Main_menu_40 rfl (by decide) ?_
          refine g_ireturn (Or.inl rfl) d_Main_menu_41 rfl ?_
          cases h; exact hQ

def B_Main_supper_16 (ld : Nat) (K16 : Int32 → Int32 → gM → Option (Int32 × gM)) : Int32 → Int32 → gM → Option (Int32 × gM) := fun v1 v2 M =>
  (if (M ld 2) ≤ v2 then some (v1, M) else bI2 (F_Main_freestDish ld v2 M) (fun r4 M5 => bI2 (F_Main_freeBehind ld v2 r4 M5) (fun r7 M8 => bI (F_Int_bitCount r7) (fun r10 => nmI (v1 + r10) (fun x11 => nmI (v2 + 1) (fun x12 => K16 x11 x12 M8))))))
def H_Main_supper_16 (ld : Nat) : Nat → Int32 → Int32 → gM → Option (Int32 × gM) := lpK (B_Main_supper_16 ld) (fun _ _ _ => none)
set_option maxHeartbeats 4000000 in
set_option maxRecDepth 20000 in
theorem h_Main_supper_16 {l : Launch} {ld : Nat} {Q : Option Value → gM → gL → gR → Prop} (hld : isLa ld)   {q : Int32 × gM} {L : gL} (hQ : Q (some (.int q.1)) q.2 L (rf ld))    : ∀ (f : Nat) (v1 : Int32) (v2 : Int32) (M : gM), H_Main_supper_16 ld f v1 v2 M = some q → Wp l y_Main_supper (0, 0, 447) 447 0 0 16 [(0, .ref 0), (1, .int v1), (2, .int v2)] [] M L (rf ld) Q := by
  intro f
  induction f with
  | zero => intro v1 v2 M h; cases h
  | succ f hK16 =>
    intro v1 v2 M h
    replace h : B_Main_supper_16 ld (H_Main_supper_16 ld f) v1 v2 M = some q := h
    unfold B_Main_supper_16 at h
    refine g_iload_n (pc1 := 17) d_Main_supper_16 rfl 2 rfl ?_
    refine g_aload_n (pc1 := 18) d_Main_supper_17 rfl 0 rfl ?_
    refine g_getr (pc1 := 21) d_Main_supper_18 rfl ⟨_, fo_Main_26⟩ sh_0 (by decide) (rf_0_2 ld) ?_
    refine g_geti (pc1 := 24) d_Main_supper_21 rfl ⟨_, fo_Main_157⟩ (shLa_0 hld) (ltLa_0 hld) ?_
    refine g_icmp_ge (pc1 := 27) (tgt := 49) d_Main_supper_24 (by decide) rfl (fun c2 => ?_) (fun c2 => ?_)
    · replace h := itp h c2
      refine g_iload_n (pc1 := 50) d_Main_supper_49 rfl 1 rfl ?_
      refine g_ireturn (Or.inl rfl) d_Main_supper_50 rfl ?_
      cases h; exact hQ
    · replace h := itn h c2
      refine g_iload_n (pc1 := 28) d_Main_supper_27 rfl 1 rfl ?_
      refine g_aload_n (pc1 := 29) d_Main_supper_28 rfl 0 rfl ?_
      refine g_iload_n (pc1 := 30) d_Main_supper_29 rfl 2 rfl ?_
      refine g_aload_n (pc1 := 31) d_Main_supper_30 rfl 0 rfl ?_
      refine g_iload_n (pc1 := 32) d_Main_supper_31 rfl 2 rfl ?_
      refine g_callV0 (pc1 := 35) (As := [.int v2]) (rest := [.int v2, .ref 0, .int v1]) d_Main_supper_32 rfl mo_Main_243 mi_Main_freestDish mv_Main_freestDish rfl sh_0 (by decide) (by decide) rfl rfl (Nat.le_of_ble_eq_true rfl) ?_
      obtain ⟨r4, M5, hq3, h⟩ := bnd2 h
      refine f_Main_freestDish hld  hq3 ?_
      dsimp only [psh]
      refine g_callV0 (pc1 := 38) (As := [.int v2, .int r4]) (rest := [.int v1]) d_Main_supper_35 rfl mo_Main_246 mi_Main_freeBehind mv_Main_freeBehind rfl sh_0 (by decide) (by decide) rfl rfl (Nat.le_of_ble_eq_true rfl) ?_
      obtain ⟨r7, M8, hq6, h⟩ := bnd2 h
      refine f_Main_freeBehind hld  hq6 ?_
      dsimp only [psh]
      refine g_callS0 (pc1 := 41) (As := [.int r7]) (rest := [.int v1]) d_Main_supper_38 rfl mo_Main_249 ms_Int_bitCount (by decide) rfl rfl (Nat.le_of_ble_eq_true rfl) ?_
      obtain ⟨r10, hq9, h⟩ := bnd h
      refine f_Int_bitCount hld  hq9 ?_
      dsimp only [psh]
      refine g_iadd (pc1 := 42) d_Main_supper_41 rfl ?_
      refine Wp.lI h (fun x11 h => ?_)
      refine g_istore_n (pc1 := 43) (lv' := [(0, .ref 0), (1, .int x11), (2, .int v2)]) d_Main_supper_42 rfl rfl (by decide) [1, 0, 2] rfl ?_
      obtain ⟨x12, ex12, h⟩ := ltI h
      refine g_iinc (pc1 := 46) (v := x12) (lv' := [(0, .ref 0), (1, .int x11), (2, .int x12)]) d_Main_supper_43 rfl 2 rfl (by rw [ex12]; rfl) (by decide) [1, 2, 0] rfl ?_
      refine g_goto (tgt := 16) d_Main_supper_46 (by decide) ?_
      exact hK16 x11 x12 M8 h
def F_Main_supper (ld : Nat) (M : gM) : Option (Int32 × gM) :=
  (if (M ld 1) = 0 then some (0, M) else H_Main_supper_16 ld FU 0 0 M)
set_option maxHeartbeats 4000000 in
set_option maxRecDepth 20000 in
theorem f_Main_supper {l : Launch} {ld : Nat} {M : gM} {L : gL} {Q : Option Value → gM → gL → gR → Prop} (hld : isLa ld)   {q : Int32 × gM} (h : F_Main_supper ld M = some q) (hQ : Q (some (.int q.1)) q.2 L (rf ld)) : Tm l y_Main_supper (0, 0, 447) 447 [.ref 0] M L (rf ld) Q := by
  refine Tm.of (by decide) (Nat.le_of_ble_eq_true rfl) ?_
  show Wp l y_Main_supper (0, 0, 447) 447 0 0 0 [(0, .ref 0)] [] M L (rf ld) Q
  unfold F_Main_supper at h
  refine g_aload_n (pc1 := 1) d_Main_supper_0 rfl 0 rfl ?_
  refine g_getr (pc1 := 4) d_Main_supper_1 rfl ⟨_, fo_Main_26⟩ sh_0 (by decide) (rf_0_2 ld) ?_
  refine g_geti (pc1 := 7) d_Main_supper_4 rfl ⟨_, fo_Main_131⟩ (shLa_0 hld) (ltLa_0 hld) ?_
  refine g_if_ne (pc1 := 10) (tgt := 12) d_Main_supper_7 (by decide) rfl (fun c1 => ?_) (fun c1 => ?_)
  · replace h := itn h c1
    refine g_iconst (pc1 := 13) (v := 0) d_Main_supper_12 rfl (by decide) ?_
    refine g_istore_n (pc1 := 14) (lv' := [(0, .ref 0), (1, .int 0)]) d_Main_supper_13 rfl rfl (by decide) [1, 0] rfl ?_
    refine g_iconst (pc1 := 15) (v := 0) d_Main_supper_14 rfl (by decide) ?_
    refine g_istore_n (pc1 := 16) (lv' := [(0, .ref 0), (1, .int 0), (2, .int 0)]) d_Main_supper_15 rfl rfl (by decide) [1, 2, 0] rfl ?_
    exact h_Main_supper_16 hld  hQ  _ 0 0 M h
  · replace h := itp h c1
    refine g_iconst (pc1 := 11) (v := 0) d_Main_supper_10 rfl (by decide) ?_
    refine g_ireturn (Or.inl rfl) d_Main_supper_11 rfl ?_
    cases h; exact hQ
end MG4x4
