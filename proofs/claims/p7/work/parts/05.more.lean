/-! names for values and memories on the way; what a method leaves alone -/
section RULES4
variable {l : Launch} {Y : gY} {E : Nat × Nat × Nat} {n k z pc pc1 : Nat} {lv lv' : List (Nat × Value)} {st : List Value} {M : gM} {L : gL} {R : gR} {Q : Option Value → gM → gL → gR → Prop}
theorem Wp.topi {x : Int32} (kk : ∀ y : Int32, y = x → Wp l Y E n k z pc lv (.int y :: st) M L R Q) : Wp l Y E n k z pc lv (.int x :: st) M L R Q := kk x rfl
theorem Wp.topl {x : Int64} (kk : ∀ y : Int64, y = x → Wp l Y E n k z pc lv (.long y :: st) M L R Q) : Wp l Y E n k z pc lv (.long x :: st) M L R Q := kk x rfl
theorem Wp.vali {x y : Int32} (h : x = y) (kk : Wp l Y E n k z pc lv (.int y :: st) M L R Q) : Wp l Y E n k z pc lv (.int x :: st) M L R Q := by rw [h]; exact kk
theorem Wp.topM (kk : ∀ M' : gM, M' = M → Wp l Y E n k z pc lv st M' L R Q) : Wp l Y E n k z pc lv st M L R Q := kk M rfl
theorem Wp.topL (kk : ∀ L' : gL, L' = L → Wp l Y E n k z pc lv st M L' R Q) : Wp l Y E n k z pc lv st M L R Q := kk L rfl
theorem g_callS0 {Y' : gY} {idx np : Nat} {As rest : List Value} (hd : decode Y.2.1 pc = .ok (.invokestatic idx, 3)) (hp : pc + 3 = pc1) (hm : mOk Y.1.cls idx np Y') (hst : Cond.static Y'.1 ∈ gtb) (hR : Y'.2.2.2.2 + 1 ≤ Y.2.2.2.2 ∧ 8 + (Y'.2.2.1 + 11) + 40 * Y'.2.2.2.2 ≤ 40 * Y.2.2.2.2) (hn : As.length = np) (hst0 : st = As.reverse ++ rest) (hcat : (rest.map fun v => v.category).sum ≤ 8)
    (hT : Tm l Y' (0, 0, n) n As M L R (fun r M' L' R' => Wp l Y (0, 0, n) n 0 0 pc1 lv (psh r rest) M' L' R' Q)) : Wp l Y (0, 0, n) n 0 0 pc lv st M L R Q :=
  g_callS (E' := (0, 0, n)) hd hp hm hst hR hn hst0 hcat ⟨Nat.le_refl 0, Nat.le_refl 0⟩ rfl hT
theorem g_callV0 {Y' : gY} {idx np a ci N : Nat} {T : u_T} {As rest : List Value} (hd : decode Y.2.1 pc = .ok (.invokevirtual idx, 3)) (hp : pc + 3 = pc1) (hm : mOk Y.1.cls idx np Y') (hins : Cond.instanceMethod Y'.1 ∈ gtb) (hsel : Cond.selects Y'.1.cls Y'.1 Y'.1 ∈ gtb) (hc : cls[ci]? = some (Y'.1.cls, T, N)) (hs : SH a = (0, ci)) (ha : a < n) (hR : Y'.2.2.2.2 + 1 ≤ Y.2.2.2.2 ∧ 8 + (Y'.2.2.1 + 11) + 40 * Y'.2.2.2.2 ≤ 40 * Y.2.2.2.2) (hn : As.length = np) (hst0 : st = As.reverse ++ .ref a :: rest) (hcat : (rest.map fun v => v.category).sum ≤ 8)
    (hT : Tm l Y' (0, 0, n) n (.ref a :: As) M L R (fun r M' L' R' => Wp l Y (0, 0, n) n 0 0 pc1 lv (psh r rest) M' L' R' Q)) : Wp l Y (0, 0, n) n 0 0 pc lv st M L R Q :=
  g_callV (E' := (0, 0, n)) hd hp hm hins hsel hc hs ha hR hn hst0 hcat ⟨Nat.le_refl 0, Nat.le_refl 0⟩ rfl hT
theorem g_tabK {dflt lo hi : Int} {offs : Array Int} {len : Nat} {x c : Int32} {off : Int} {tgt : Nat} (hd : decode Y.2.1 pc = .ok (.tableswitch dflt lo hi offs, len)) (hx : x = c) (h1 : ¬ c.toInt < lo) (h2 : ¬ hi < c.toInt) (ho : offs[(c.toInt - lo).toNat]? = some off) (ht : (pc : Int) + off = (tgt : Int)) (kk : Wp l Y E n k z tgt lv st M L R Q) : Wp l Y E n k z pc lv (.int x :: st) M L R Q := by
  subst hx
  exact g_tabIn hd h1 h2 ho ht kk
end RULES4
def Kp (S : Nat → Bool) (M : gM) (L : gL) (M' : gM) (L' : gL) : Prop := ∀ c, S c = false → M' c = M c ∧ L' c = L c
theorem Kp.rf {S : Nat → Bool} {M : gM} {L : gL} : Kp S M L M L := fun _ _ => ⟨rfl, rfl⟩
theorem Kp.trans {S : Nat → Bool} {M M1 M2 : gM} {L L1 L2 : gL} (h : Kp S M L M1 L1) (g : Kp S M1 L1 M2 L2) : Kp S M L M2 L2 := fun c hc => ⟨(g c hc).1.trans (h c hc).1, (g c hc).2.trans (h c hc).2⟩
theorem Kp.mono {S S' : Nat → Bool} {M M' : gM} {L L' : gL} (h : Kp S M L M' L') (f : ∀ c, S c = true → S' c = true) : Kp S' M L M' L' := fun c hc => h c (by
  cases e : S c with
  | false => rfl
  | true => rw [f c e] at hc; cases hc)
theorem Kp.wM {S : Nat → Bool} {M M1 M2 : gM} {L L1 : gL} {a i : Nat} {x : Int32} (h : Kp S M L M1 L1) (ha : S a = true) (e : M2 = uM M1 a i x) : Kp S M L M2 L1 := fun c hc => by
  have hne : c ≠ a := fun q => by rw [q, ha] at hc; cases hc
  exact ⟨by rw [e, uM_ne _ _ _ hne]; exact (h c hc).1, (h c hc).2⟩
theorem Kp.wL {S : Nat → Bool} {M M1 : gM} {L L1 L2 : gL} {a i : Nat} {x : Int64} (h : Kp S M L M1 L1) (ha : S a = true) (e : L2 = uL L1 a i x) : Kp S M L M1 L2 := fun c hc => by
  have hne : c ≠ a := fun q => by rw [q, ha] at hc; cases hc
  exact ⟨(h c hc).1, by rw [e, uL_ne _ _ _ hne]; exact (h c hc).2⟩
theorem Kp.m {S : Nat → Bool} {M M' : gM} {L L' : gL} (h : Kp S M L M' L') {c : Nat} (hc : S c = false) (j : Nat) : M' c j = M c j := congrFun (h c hc).1 j
theorem Kp.l {S : Nat → Bool} {M M' : gM} {L L' : gL} (h : Kp S M L M' L') {c : Nat} (hc : S c = false) (j : Nat) : L' c j = L c j := congrFun (h c hc).2 j
def one (a : Nat) : Nat → Bool := fun c => c == a
theorem one_S {S : Nat → Bool} {a : Nat} (h : S a = true) : ∀ c, one a c = true → S c = true := fun c hc => by
  have : c = a := by simpa [one] using hc
  rw [this]; exact h
/-- indices, counters -/
theorem i_lt {x y : Int32} : x < y ↔ x.toInt < y.toInt := Int32.lt_iff_toInt_lt
theorem i_le {x y : Int32} : x ≤ y ↔ x.toInt ≤ y.toInt := Int32.le_iff_toInt_le
theorem i_nl {x y : Int32} (q : y ≤ x) : ¬ x < y := by
  rw [i_lt]; rw [i_le] at q; omega
theorem i_b (x : Int32) : -2147483648 ≤ x.toInt ∧ x.toInt < 2147483648 := by
  have h1 := Int32.le_toInt x
  have h2 := Int32.toInt_lt x
  omega
theorem i_nN {N : Nat} (h : N < 2 ^ 31) : (Int32.ofNat N).toInt = (N : Int) := nI_toInt h
theorem i_cl {x : Int32} (h : ¬ x < 0) : (x.toNatClampNeg : Int) = x.toInt := by
  have h' : 0 ≤ x.toInt := by
    have := mt i_lt.mpr h
    rw [Int32.toInt_zero] at this
    omega
  rw [← Int32.toNat_toInt]
  omega
theorem vin_of {x : Int32} {N : Nat} (h1 : ¬ x < 0) (h2 : ¬ Int32.ofNat N ≤ x) (hN : N < 2 ^ 31) : vp_in x N := by
  rintro (h | h)
  · exact h1 h
  · apply h2
    rw [i_le, i_nN hN]
    have := i_cl h1
    omega
theorem vin_c {x : Int32} {N : Nat} (h1 : ¬ x < 0) (h2 : x.toInt < N) : vp_in x N := by
  rintro (h | h)
  · exact h1 h
  · have := i_cl h1
    omega
theorem i_add1 {x y : Int32} (h : x < y) : (x + 1).toInt = x.toInt + 1 := by
  have h1 := i_lt.mp h
  have h2 := i_b y
  have h3 := i_b x
  rw [Int32.toInt_add]
  have e : (1 : Int32).toInt = 1 := by decide
  rw [e]
  rw [Int.bmod_eq_of_le (by omega) (by omega)]
theorem i_sub1 {x : Int32} (h : ¬ x < 0) : (x + (-1)).toInt = x.toInt - 1 := by
  have h1 := mt i_lt.mpr h
  have h3 := i_b x
  rw [Int32.toInt_zero] at h1
  rw [Int32.toInt_add]
  have e : (-1 : Int32).toInt = -1 := by decide
  rw [e]
  rw [Int.bmod_eq_of_le (by omega) (by omega)]
  omega
theorem md_up {x x' y : Int32} {f : Nat} (h : ¬ y ≤ x) (e : x' = x + 1) (hm : (y.toInt - x.toInt).toNat < f + 1) : (y.toInt - x'.toInt).toNat < f := by
  have h1 : x < y := by rw [i_lt]; rw [i_le] at h; omega
  have h2 := i_add1 h1
  have h3 := i_lt.mp h1
  rw [e, h2]
  omega
theorem md_dn {x x' : Int32} {f : Nat} (h : ¬ x < 0) (e : x' = x + (-1)) (hm : (x.toInt + 1).toNat < f + 1) : (x'.toInt + 1).toNat < f := by
  have h2 := i_sub1 h
  have h1 := mt i_lt.mpr h
  rw [Int32.toInt_zero] at h1
  rw [e, h2]
  omega
theorem neT {x c : Int32} {a : Int} (h : ¬ x = c) (hk : c.toInt = a) : ¬ x.toInt = a := lv_neT h hk
theorem nar01 {r : Int32} (h : r = 0 ∨ r = 1) : narrow .boolean (.int r) = .int r := by
  rcases h with rfl | rfl <;> rfl
theorem i_sub {x c : Int32} (h : ¬ x < c) (hc : 0 ≤ c.toInt) : (x - c).toInt = x.toInt - c.toInt := by
  have h1 := mt i_lt.mpr h
  have h2 := i_b x
  rw [Int32.toInt_sub, Int.bmod_eq_of_le (by omega) (by omega)]
theorem vin_s2 {x : Int32} (h1 : ¬ x < 2) (h2 : x ≤ 32) : vp_in (x - 2) 32 := by
  have e := i_sub h1 (by decide)
  have e2 : (2 : Int32).toInt = 2 := by decide
  have e3 : (32 : Int32).toInt = 32 := by decide
  rw [i_lt] at h1
  rw [i_le] at h2
  refine vin_c ?_ (by omega)
  rw [i_lt, Int32.toInt_zero]
  omega
theorem vin_s1 {x : Int32} (h1 : ¬ x < 2) (h2 : x ≤ 32) : vp_in (x - 1) 32 := by
  have e2 : (2 : Int32).toInt = 2 := by decide
  have e1 : (1 : Int32).toInt = 1 := by decide
  have e3 : (32 : Int32).toInt = 32 := by decide
  rw [i_lt] at h1
  rw [i_le] at h2
  have e : (x - 1).toInt = x.toInt - 1 := by rw [i_sub (c := 1) (by rw [i_lt]; omega) (by decide), e1]
  refine vin_c ?_ (by omega)
  rw [i_lt, Int32.toInt_zero]
  omega
theorem nn_sub1 {x : Int32} (h : ¬ x ≤ 0) : ¬ x - 1 < 0 := by
  have e1 : (1 : Int32).toInt = 1 := by decide
  rw [i_le, Int32.toInt_zero] at h
  have e : (x - 1).toInt = x.toInt - 1 := by rw [i_sub (c := 1) (by rw [i_lt]; omega) (by decide), e1]
  rw [i_lt, Int32.toInt_zero]
  omega
theorem vin_a2 {x : Int32} (h1 : ¬ x < 2) (h2 : x ≤ 32) : vp_in (x + (-2)) 32 := by
  have e : x + (-2) = x - 2 := by rw [Int32.sub_eq_add_neg]
  rw [e]
  exact vin_s2 h1 h2
theorem md_lay {x x' : Int32} {f : Nat} (h : ¬ x ≤ 0) (e : x' = x - 1) (hm : x.toInt.toNat < f + 1) : x'.toInt.toNat < f := by
  have e1 : (1 : Int32).toInt = 1 := by decide
  rw [i_le, Int32.toInt_zero] at h
  rw [e, i_sub (c := 1) (by rw [i_lt]; omega) (by decide), e1]
  omega
theorem vin_lit {x : Int32} {N : Nat} (h : ¬ x < 0 ∧ x.toInt < N) : vp_in x N := vin_c h.1 h.2
theorem rd_ne {M' M : gM} {a i c j : Nat} {x : Int32} (e : M' = uM M a i x) (h : ¬ (c = a ∧ j = i)) : M' c j = M c j := by rw [e, uM_at, if_neg h]
theorem rd_eq {M' M : gM} {a i : Nat} {x : Int32} (e : M' = uM M a i x) : M' a i = x := by rw [e, uM_at, if_pos ⟨rfl, rfl⟩]
