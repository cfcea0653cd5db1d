/-! arithmetic of indices, over toInt -/
theorem i_addE {x y : Int32} {a b : Int} (hx : x.toInt = a) (hy : y.toInt = b) (h : -2147483648 ≤ a + b ∧ a + b < 2147483648) : (x + y).toInt = a + b := by
  rw [Int32.toInt_add, hx, hy, Int.bmod_eq_of_le (by omega) (by omega)]
theorem i_subE {x y : Int32} {a b : Int} (hx : x.toInt = a) (hy : y.toInt = b) (h : -2147483648 ≤ a - b ∧ a - b < 2147483648) : (x - y).toInt = a - b := by
  rw [Int32.toInt_sub, hx, hy, Int.bmod_eq_of_le (by omega) (by omega)]
theorem i_mulE {x y : Int32} {a b : Int} (hx : x.toInt = a) (hy : y.toInt = b) (h : -2147483648 ≤ a * b ∧ a * b < 2147483648) : (x * y).toInt = a * b := by
  rw [Int32.toInt_mul, hx, hy, Int.bmod_eq_of_le (by omega) (by omega)]
theorem i_nI {x : Int32} (h : 0 ≤ x.toInt) : x = nI x.toInt.toNat := by
  have h1 : ¬ x < 0 := by rw [i_lt, Int32.toInt_zero]; omega
  obtain ⟨j, hj, e⟩ := nI_of h1
  have e2 : x.toInt = (j : Int) := by rw [e]; exact nI_toInt hj
  rw [e2]
  exact e
theorem i_divE {x y : Int32} {a b : Int} (hx : x.toInt = a) (hy : y.toInt = b) (h0 : 0 ≤ a) (h1 : 0 < b) : (x / y).toInt = a / b := by
  have bx := i_b x
  have b2 := i_b y
  have e1 := i_nI (x := x) (by omega)
  have e2 := i_nI (x := y) (by omega)
  rw [hx] at e1
  rw [hy] at e2
  have l1 : a.toNat < 2 ^ 31 := by omega
  have l2 : b.toNat < 2 ^ 31 := by omega
  rw [e1, e2, pk_div l1 (by omega) l2, nI_toInt (Nat.lt_of_le_of_lt (Nat.div_le_self _ _) l1)]
  rw [Int.natCast_ediv, Int.toNat_of_nonneg h0, Int.toNat_of_nonneg (by omega)]
theorem i_remE {x y : Int32} {a b : Int} (hx : x.toInt = a) (hy : y.toInt = b) (h0 : 0 ≤ a) (h1 : 0 < b) : (x - x / y * y).toInt = a % b := by
  have bx := i_b x
  have b2 := i_b y
  have e1 := i_nI (x := x) (by omega)
  have e2 := i_nI (x := y) (by omega)
  rw [hx] at e1
  rw [hy] at e2
  have l1 : a.toNat < 2 ^ 31 := by omega
  have l2 : b.toNat < 2 ^ 31 := by omega
  rw [e1, e2, pk_rem l1 (by omega) l2, nI_toInt (Nat.lt_of_le_of_lt (Nat.mod_le _ _) l1)]
  rw [Int.natCast_emod, Int.toNat_of_nonneg h0, Int.toNat_of_nonneg (by omega)]
theorem vin_i {x : Int32} {N : Nat} (h0 : 0 ≤ x.toInt) (h1 : x.toInt < N) : vp_in x N := vin_c (by rw [i_lt, Int32.toInt_zero]; omega) h1
theorem bp_t {r : Int32} {P : Prop} (hb : (r = 0 ∧ ¬ P) ∨ (r = 1 ∧ P)) (h : ¬ r = 0) : P := by
  rcases hb with ⟨e, _⟩ | ⟨_, p⟩
  · exact absurd e h
  · exact p
theorem bp_f {r : Int32} {P : Prop} (hb : (r = 0 ∧ ¬ P) ∨ (r = 1 ∧ P)) (h : r = 0) : ¬ P := by
  rcases hb with ⟨_, p⟩ | ⟨e, _⟩
  · exact p
  · rw [h] at e; exact absurd e (by decide)
theorem bp_01 {r : Int32} {P : Prop} (hb : (r = 0 ∧ ¬ P) ∨ (r = 1 ∧ P)) : r = 0 ∨ r = 1 := hb.imp (fun h => h.1) (fun h => h.1)
theorem bp_iff {r : Int32} {P P' : Prop} (hb : (r = 0 ∧ ¬ P) ∨ (r = 1 ∧ P)) (h : P ↔ P') : (r = 0 ∧ ¬ P') ∨ (r = 1 ∧ P') := hb.imp (fun g => ⟨g.1, fun q => g.2 (h.mpr q)⟩) (fun g => ⟨g.1, h.mp g.2⟩)
def Kl (S : Nat → Nat → Bool) (M : gM) (L : gL) (M' : gM) (L' : gL) : Prop := ∀ c j, S c j = false → M' c j = M c j ∧ L' c j = L c j
theorem Kl.rf {S : Nat → Nat → Bool} {M : gM} {L : gL} : Kl S M L M L := fun _ _ _ => ⟨rfl, rfl⟩
theorem Kl.trans {S : Nat → Nat → Bool} {M M1 M2 : gM} {L L1 L2 : gL} (h : Kl S M L M1 L1) (g : Kl S M1 L1 M2 L2) : Kl S M L M2 L2 := fun c j hc => ⟨(g c j hc).1.trans (h c j hc).1, (g c j hc).2.trans (h c j hc).2⟩
theorem Kl.mono {S S' : Nat → Nat → Bool} {M M' : gM} {L L' : gL} (h : Kl S M L M' L') (f : ∀ c j, S c j = true → S' c j = true) : Kl S' M L M' L' := fun c j hc => h c j (by
  cases e : S c j with
  | false => rfl
  | true => rw [f c j e] at hc; cases hc)
theorem Kl.wM {S : Nat → Nat → Bool} {M M1 M2 : gM} {L L1 : gL} {a i : Nat} {x : Int32} (h : Kl S M L M1 L1) (ha : S a i = true) (e : M2 = uM M1 a i x) : Kl S M L M2 L1 := fun c j hc => by
  have hne : ¬ (c = a ∧ j = i) := fun q => by rw [q.1, q.2, ha] at hc; cases hc
  exact ⟨by rw [e, uM_at, if_neg hne]; exact (h c j hc).1, (h c j hc).2⟩
theorem Kl.wL {S : Nat → Nat → Bool} {M M1 : gM} {L L1 L2 : gL} {a i : Nat} {x : Int64} (h : Kl S M L M1 L1) (ha : S a i = true) (e : L2 = uL L1 a i x) : Kl S M L M1 L2 := fun c j hc => by
  have hne : ¬ (c = a ∧ j = i) := fun q => by rw [q.1, q.2, ha] at hc; cases hc
  exact ⟨(h c j hc).1, by rw [e, uL_at, if_neg hne]; exact (h c j hc).2⟩
theorem Kl.m {S : Nat → Nat → Bool} {M M' : gM} {L L' : gL} (h : Kl S M L M' L') {c j : Nat} (hc : S c j = false) : M' c j = M c j := (h c j hc).1
theorem Kl.l {S : Nat → Nat → Bool} {M M' : gM} {L L' : gL} (h : Kl S M L M' L') {c j : Nat} (hc : S c j = false) : L' c j = L c j := (h c j hc).2
def MS0 (c j : Nat) : Bool := c == 434 || c == 435 || (c == 401 && j == 51)
def MS1 (c j : Nat) : Bool := MS0 c j || c == 437 || c == 438 || c == 439 || c == 444 || (c == 401 && (j == 54 || j == 59 || j == 60 || j == 61 || j == 62 || j == 63))
theorem MS0_MS1 : ∀ c j, MS0 c j = true → MS1 c j = true := fun c j h => by unfold MS1; rw [h]; rfl
/-- how deep the pile stands behind k instructions of a law's row, begun at a -/
def vdp (M : gM) (a : Nat) : Nat → Option Nat
  | 0 => some 0
  | k + 1 => match vdp M a k with
    | none => none
    | some d => if (M 431 (a + k)).toInt < 2 then some (d + 1) else if 2 ≤ d then some (d - 1) else none
def segOk (M : gM) (a b : Nat) : Prop := a < b ∧ b ≤ 840 ∧ b - a ≤ 400 ∧ vdp M a (b - a) = some 1 ∧ ∀ j, a ≤ j → j < b → (0 ≤ (M 431 j).toInt ∧ (M 431 j).toInt ≤ 5) ∧ ((M 431 j).toInt = 1 → 0 ≤ (M 432 j).toInt ∧ (M 432 j).toInt < 9)
def lawOk (M : gM) (at_ : Nat) : Prop := 0 ≤ (M 424 at_).toInt ∧ (M 425 at_).toInt ≤ 260 ∧ ∀ b : Nat, (M 424 at_).toInt ≤ b → (b : Int) < (M 425 at_).toInt →
  (M 426 b ≠ 0 → 0 ≤ (M 427 b).toInt) ∧ 0 ≤ (M 429 b).toInt ∧ (M 426 b ≠ 0 → 0 ≤ (M 428 b).toInt ∧ segOk M (M 427 b).toInt.toNat (M 428 b).toInt.toNat ∧ segOk M (M 428 b).toInt.toNat (M 429 b).toInt.toNat) ∧ 0 ≤ (M 430 b).toInt ∧ segOk M (M 429 b).toInt.toNat (M 430 b).toInt.toNat
/-- what holds of the model between calls -/
def Inv (M : gM) : Prop := (0 ≤ (M 401 18).toInt ∧ (M 401 18).toInt ≤ 1) ∧ (∀ i, 0 ≤ (M 411 i).toInt ∧ (M 411 i).toInt ≤ 6) ∧ (∀ i, 0 ≤ (M 415 i).toInt ∧ (M 415 i).toInt ≤ 5) ∧ (∀ i, 0 ≤ (M 418 i).toInt ∧ (M 418 i).toInt ≤ 4) ∧ (∀ i, 0 ≤ (M 420 i).toInt ∧ (M 420 i).toInt ≤ 6) ∧
  (0 ≤ (M 401 57).toInt ∧ (M 401 57).toInt ≤ 40) ∧ (0 ≤ (M 401 64).toInt ∧ (M 401 64).toInt ≤ 20) ∧ (∀ i : Nat, (i : Int) < (M 401 64).toInt → 0 ≤ (M 441 i).toInt ∧ (M 441 i).toInt ≤ 2) ∧
  (∀ i : Nat, 6 * (M 401 18).toInt ≤ i → (i : Int) < 6 * (M 401 18).toInt + (M 420 (M 401 18).toInt.toNat).toInt → 0 ≤ (M 421 i).toInt ∧ (M 421 i).toInt ≤ 2) ∧
  (0 < (M 415 (M 401 18).toInt.toNat).toInt → 0 < (M 411 (M 401 18).toInt.toNat).toInt) ∧ (∀ k, k < 4 → lawOk M ((4 * (M 401 18).toInt).toNat + k))
/-- the places that Inv speaks of -/
def invL (c j : Nat) : Bool := (c == 401 && (j == 18 || j == 57 || j == 64)) || (decide (411 ≤ c) && decide (c ≤ 432)) || c == 441
theorem vdp_keep {M M' : gM} {a : Nat} (h : ∀ j, M' 431 j = M 431 j) : ∀ k, vdp M' a k = vdp M a k := by
  intro k
  induction k with
  | zero => rfl
  | succ k ih => simp only [vdp, ih, h]
theorem segOk.keep {M M' : gM} {a b : Nat} (h : ∀ c j, invL c j = true → M' c j = M c j) (g : segOk M a b) : segOk M' a b := by
  have e1 : ∀ j, M' 431 j = M 431 j := fun j => h 431 j rfl
  have e2 : ∀ j, M' 432 j = M 432 j := fun j => h 432 j rfl
  unfold segOk at g ⊢
  rw [vdp_keep e1]
  simp only [e1, e2]
  exact g
theorem lawOk.keep {M M' : gM} {k : Nat} (h : ∀ c j, invL c j = true → M' c j = M c j) (g : lawOk M k) : lawOk M' k := by
  have e : ∀ c j, invL c j = true → M' c j = M c j := h
  unfold lawOk at g ⊢
  rw [e 424 _ rfl, e 425 _ rfl]
  refine ⟨g.1, g.2.1, fun b h1 h2 => ?_⟩
  have g3 := g.2.2 b h1 h2
  rw [e 427 _ rfl, e 429 _ rfl, e 426 _ rfl, e 428 _ rfl, e 430 _ rfl]
  exact ⟨g3.1, g3.2.1, fun hb => ⟨(g3.2.2.1 hb).1, segOk.keep h (g3.2.2.1 hb).2.1, segOk.keep h (g3.2.2.1 hb).2.2⟩, g3.2.2.2.1, segOk.keep h g3.2.2.2.2⟩
theorem Inv.keep' {M M' : gM} (h : ∀ c j, invL c j = true → M' c j = M c j) (g : Inv M) : Inv M' := by
  unfold Inv at g ⊢
  have e18 : M' 401 18 = M 401 18 := h 401 18 rfl
  have e411 : ∀ i, M' 411 i = M 411 i := fun i => h 411 i rfl
  have e415 : ∀ i, M' 415 i = M 415 i := fun i => h 415 i rfl
  have e418 : ∀ i, M' 418 i = M 418 i := fun i => h 418 i rfl
  have e420 : ∀ i, M' 420 i = M 420 i := fun i => h 420 i rfl
  have e421 : ∀ i, M' 421 i = M 421 i := fun i => h 421 i rfl
  have e441 : ∀ i, M' 441 i = M 441 i := fun i => h 441 i rfl
  have e57 : M' 401 57 = M 401 57 := h 401 57 rfl
  have e64 : M' 401 64 = M 401 64 := h 401 64 rfl
  simp only [e18, e411, e415, e418, e420, e421, e441, e57, e64]
  obtain ⟨g1, g2, g3, g4, g5, g6, g7, g8, g9, g10, g11⟩ := g
  exact ⟨g1, g2, g3, g4, g5, g6, g7, g8, g9, g10, fun k hk => (g11 k hk).keep h⟩
theorem Inv.keep {S : Nat → Nat → Bool} {M M' : gM} {L L' : gL} (g : Inv M) (hS : ∀ c j, invL c j = true → S c j = false) (h : Kl S M L M' L') : Inv M' := g.keep' (fun c j hc => h.m (hS c j hc))
theorem inv_MS1 : ∀ c j, invL c j = true → MS1 c j = false := by
  intro c j h
  simp only [invL, Bool.or_eq_true, Bool.and_eq_true, beq_iff_eq, decide_eq_true_eq] at h
  simp only [MS1, MS0, Bool.or_eq_false_iff, Bool.and_eq_false_iff, beq_eq_false_iff_ne]
  omega
theorem inv_MS0 : ∀ c j, invL c j = true → MS0 c j = false := fun c j h => by
  have := inv_MS1 c j h
  cases e : MS0 c j with
  | false => rfl
  | true => rw [MS0_MS1 c j e] at this; cases this
theorem Inv.live {M : gM} (h : Inv M) : 0 ≤ (M 401 18).toInt ∧ (M 401 18).toInt ≤ 1 := h.1
theorem Inv.foods {M : gM} (h : Inv M) (i : Nat) : 0 ≤ (M 411 i).toInt ∧ (M 411 i).toInt ≤ 6 := h.2.1 i
theorem Inv.dishes {M : gM} (h : Inv M) (i : Nat) : 0 ≤ (M 415 i).toInt ∧ (M 415 i).toInt ≤ 5 := h.2.2.1 i
theorem Inv.guests {M : gM} (h : Inv M) (i : Nat) : 0 ≤ (M 418 i).toInt ∧ (M 418 i).toInt ≤ 4 := h.2.2.2.1 i
theorem Inv.deeds {M : gM} (h : Inv M) (i : Nat) : 0 ≤ (M 420 i).toInt ∧ (M 420 i).toInt ≤ 6 := h.2.2.2.2.1 i
theorem Inv.undos {M : gM} (h : Inv M) : 0 ≤ (M 401 57).toInt ∧ (M 401 57).toInt ≤ 40 := h.2.2.2.2.2.1
theorem Inv.tolds {M : gM} (h : Inv M) : 0 ≤ (M 401 64).toInt ∧ (M 401 64).toInt ≤ 20 := h.2.2.2.2.2.2.1
theorem Inv.told {M : gM} (h : Inv M) {i : Int32} (h0 : 0 ≤ i.toInt) (h1 : i.toInt < (M 401 64).toInt) : 0 ≤ (M 441 i.toNatClampNeg).toInt ∧ (M 441 i.toNatClampNeg).toInt ≤ 2 := by
  have e := i_cl (x := i) (by rw [i_lt, Int32.toInt_zero]; omega)
  exact h.2.2.2.2.2.2.2.1 _ (by omega)
theorem clampN {i : Int32} (h0 : 0 ≤ i.toInt) : i.toNatClampNeg = i.toInt.toNat := by
  have e := i_cl (x := i) (by rw [i_lt, Int32.toInt_zero]; omega)
  omega
theorem Inv.force {M : gM} (h : Inv M) {i : Int32} {e : Int} (hi : i.toInt = 6 * (M 401 18).toInt + e) (h0 : 0 ≤ e) (h1 : e < (M 420 (M 401 18).toNatClampNeg).toInt) : 0 ≤ (M 421 i.toNatClampNeg).toInt ∧ (M 421 i.toNatClampNeg).toInt ≤ 2 := by
  have hl := h.live
  rw [clampN hl.1] at h1
  have e1 := i_cl (x := i) (by rw [i_lt, Int32.toInt_zero]; omega)
  exact h.2.2.2.2.2.2.2.2.1 _ (by omega) (by omega)
theorem Inv.some {M : gM} (h : Inv M) (h1 : 0 < (M 415 (M 401 18).toNatClampNeg).toInt) : 0 < (M 411 (M 401 18).toNatClampNeg).toInt := by
  rw [clampN h.live.1] at h1 ⊢
  exact h.2.2.2.2.2.2.2.2.2.1 h1
theorem Inv.law {M : gM} (h : Inv M) {i : Int32} {k : Int} (hi : i.toInt = 4 * (M 401 18).toInt + k) (h0 : 0 ≤ k) (h1 : k < 4) : lawOk M i.toNatClampNeg := by
  have hl := h.live
  have e := h.2.2.2.2.2.2.2.2.2.2 k.toNat (by omega)
  have e1 : i.toNatClampNeg = (4 * (M 401 18).toInt).toNat + k.toNat := by
    rw [clampN (by omega), hi]; omega
  rw [e1]
  exact e
theorem powN_le {b k : Nat} (hb : 0 < b) (h : k ≤ 7) : 1 ≤ b ^ k ∧ b ^ k ≤ b ^ 7 := ⟨Nat.pos_of_ne_zero (by have := Nat.pow_pos (n := k) hb; omega), Nat.pow_le_pow_right hb h⟩
theorem powI_le (b : Nat) (hb : 0 < b) {k : Nat} (h : k ≤ 7) : 1 ≤ (b : Int) ^ k ∧ (b : Int) ^ k ≤ ((b ^ 7 : Nat) : Int) := by
  have h1 := powN_le hb h
  rw [← Int.natCast_pow]
  omega
theorem pow_step (b : Nat) (hb : 0 < b) (hb7 : b ^ 7 < 2147483648) {v v' w w' n bI : Int32} (hbI : bI.toInt = b) (hn : v.toInt ≤ n.toInt ∧ w.toInt = (b : Int) ^ v.toInt.toNat) (hn7 : n.toInt ≤ 7) (h0 : 0 ≤ v.toInt) (hc : v.toInt < n.toInt) (e1 : v' = v + 1) (e2 : w' = w * bI) : v'.toInt ≤ n.toInt ∧ w'.toInt = (b : Int) ^ v'.toInt.toNat := by
  have a1 : v'.toInt = v.toInt + 1 := by rw [e1]; exact i_addE rfl (by decide) (by omega)
  have a2 : v'.toInt.toNat = v.toInt.toNat + 1 := by omega
  have a3 := powI_le b hb (k := v.toInt.toNat + 1) (by omega)
  have a4 : (b : Int) ^ (v.toInt.toNat + 1) = (b : Int) ^ v.toInt.toNat * b := Int.pow_succ _ _
  refine ⟨by omega, ?_⟩
  rw [a2, a4, e2]
  exact i_mulE hn.2 hbI (by omega)
theorem pow_fin (b : Nat) (hb : 0 < b) {v w n : Int32} (hn : v.toInt ≤ n.toInt ∧ w.toInt = (b : Int) ^ v.toInt.toNat) (hn7 : n.toInt ≤ 7) (hc : n.toInt ≤ v.toInt) : w.toInt = (b : Int) ^ n.toInt.toNat ∧ 1 ≤ w.toInt ∧ w.toInt ≤ ((b ^ 7 : Nat) : Int) := by
  have e : v.toInt = n.toInt := by omega
  have h1 := powI_le b hb (k := n.toInt.toNat) (by omega)
  rw [hn.2, e]
  exact ⟨rfl, h1⟩
theorem ushr1_nn (x : Int32) : 0 ≤ ((x.toUInt32 >>> ((1 : Int32).toUInt32 &&& Int32.toUInt32 31)).toInt32).toInt := by
  have h := pk_ushr x 1 1 (by decide)
  have hx : x.toBitVec.toNat < 2 ^ 32 := x.toBitVec.isLt
  rw [← Int32.toInt_toBitVec, BitVec.toInt_eq_toNat_cond]
  rw [h]
  split <;> omega
theorem lot_rng {x n : Int32} (h : 0 < n.toInt) : 0 ≤ ((x.toUInt32 >>> ((1 : Int32).toUInt32 &&& Int32.toUInt32 31)).toInt32 - (x.toUInt32 >>> ((1 : Int32).toUInt32 &&& Int32.toUInt32 31)).toInt32 / n * n).toInt ∧ ((x.toUInt32 >>> ((1 : Int32).toUInt32 &&& Int32.toUInt32 31)).toInt32 - (x.toUInt32 >>> ((1 : Int32).toUInt32 &&& Int32.toUInt32 31)).toInt32 / n * n).toInt < n.toInt := by
  rw [i_remE rfl rfl (ushr1_nn x) h]
  exact ⟨Int.emod_nonneg _ (by omega), Int.emod_lt_of_pos _ h⟩
theorem vdp_le {M : gM} {a : Nat} : ∀ {k d : Nat}, vdp M a k = some d → d ≤ k
  | 0, d, h => by simp [vdp] at h; omega
  | k + 1, d, h => by
    simp only [vdp] at h
    cases e : vdp M a k with
    | none => rw [e] at h; cases h
    | some d0 =>
      have := vdp_le e
      rw [e] at h
      simp only at h
      split at h
      · injection h; omega
      · split at h
        · injection h; omega
        · cases h
theorem vdp_pre {M : gM} {a k : Nat} : ∀ j, vdp M a (k + j) ≠ none → vdp M a k ≠ none
  | 0, h => h
  | j + 1, h => vdp_pre j (fun e => h (by show vdp M a (k + j + 1) = none; simp only [vdp, e]))
def tInv (M : gM) (a b c t : Int32) : Prop := a.toInt ≤ c.toInt ∧ c.toInt ≤ b.toInt ∧ ∃ d : Nat, vdp M a.toInt.toNat (c.toInt - a.toInt).toNat = some d ∧ t.toInt = d
theorem tInv_0 {M : gM} {a b : Int32} (h0 : 0 ≤ a.toInt) (hs : segOk M a.toInt.toNat b.toInt.toNat) : tInv M a b a 0 := by
  have h1 := hs.1
  refine ⟨Int.le_refl _, by omega, 0, ?_, rfl⟩
  rw [Int.sub_self]; rfl
theorem tInv_b {M : gM} {a b c t : Int32} (h0 : 0 ≤ a.toInt) (hs : segOk M a.toInt.toNat b.toInt.toNat) (h : tInv M a b c t) : 0 ≤ t.toInt ∧ t.toInt ≤ c.toInt - a.toInt ∧ a.toInt ≤ c.toInt ∧ c.toInt ≤ b.toInt ∧ b.toInt - a.toInt ≤ 400 ∧ b.toInt ≤ 840 := by
  obtain ⟨h1, h2, d, h3, h4⟩ := h
  have := vdp_le h3
  have g1 := hs.1
  have g2 := hs.2.1
  have g3 := hs.2.2.1
  omega
theorem tInv_sp {M : gM} {a b c c' t : Int32} (h0 : 0 ≤ a.toInt) (hs : segOk M a.toInt.toNat b.toInt.toNat) (h : tInv M a b c t) (hc : c.toInt < b.toInt) : ∃ d : Nat, t.toInt = d ∧ vdp M a.toInt.toNat ((c.toInt - a.toInt).toNat + 1) = (if (M 431 c.toNatClampNeg).toInt < 2 then some (d + 1) else if 2 ≤ d then some (d - 1) else none) ∧ vdp M a.toInt.toNat ((c.toInt - a.toInt).toNat + 1) ≠ none := by
  obtain ⟨h1, h2, d, h3, h4⟩ := h
  have hcl := clampN (i := c) (by omega)
  refine ⟨d, h4, ?_, ?_⟩
  · simp only [vdp, h3]
    rw [hcl, show a.toInt.toNat + (c.toInt - a.toInt).toNat = c.toInt.toNat by omega]
  · have g := hs.2.2.2.1
    have g1 := hs.1
    apply vdp_pre ((b.toInt.toNat - a.toInt.toNat) - ((c.toInt - a.toInt).toNat + 1))
    rw [show (c.toInt - a.toInt).toNat + 1 + ((b.toInt.toNat - a.toInt.toNat) - ((c.toInt - a.toInt).toNat + 1)) = b.toInt.toNat - a.toInt.toNat by omega, g]
    intro e; cases e
theorem tInv_push {M : gM} {a b c c' t t' x : Int32} (h0 : 0 ≤ a.toInt) (hs : segOk M a.toInt.toNat b.toInt.toNat) (h : tInv M a b c t) (hc : c.toInt < b.toInt) (ex : x = M 431 c.toNatClampNeg) (hk : x.toInt < 2) (ec : c' = c + 1) (et : t' = t + 1) : tInv M a b c' t' := by
  obtain ⟨d, h4, h5, -⟩ := tInv_sp (c' := c') h0 hs h hc
  have hb := tInv_b h0 hs h
  rw [if_pos (by rw [← ex]; exact hk)] at h5
  have a1 : c'.toInt = c.toInt + 1 := by rw [ec]; exact i_addE rfl (by decide) (by omega)
  have a2 : t'.toInt = t.toInt + 1 := by rw [et]; exact i_addE rfl (by decide) (by omega)
  refine ⟨by omega, by omega, d + 1, ?_, by omega⟩
  rw [show (c'.toInt - a.toInt).toNat = (c.toInt - a.toInt).toNat + 1 by omega]
  exact h5
theorem tInv_op {M : gM} {a b c t x : Int32} (h0 : 0 ≤ a.toInt) (hs : segOk M a.toInt.toNat b.toInt.toNat) (h : tInv M a b c t) (hc : c.toInt < b.toInt) (ex : x = M 431 c.toNatClampNeg) (hk : ¬ x.toInt < 2) : 2 ≤ t.toInt := by
  obtain ⟨d, h4, h5, h6⟩ := tInv_sp (c' := c) h0 hs h hc
  rw [if_neg (by rw [← ex]; exact hk)] at h5
  rcases Nat.lt_or_ge d 2 with g | g
  · rw [if_neg (by omega)] at h5
    exact absurd h5 h6
  · omega
theorem tInv_pop {M : gM} {a b c c' t t' x : Int32} (h0 : 0 ≤ a.toInt) (hs : segOk M a.toInt.toNat b.toInt.toNat) (h : tInv M a b c t) (hc : c.toInt < b.toInt) (ex : x = M 431 c.toNatClampNeg) (hk : ¬ x.toInt < 2) (ec : c' = c + 1) (et : t' = t + (-1)) : tInv M a b c' t' := by
  have h2 := tInv_op h0 hs h hc ex hk
  obtain ⟨d, h4, h5, h6⟩ := tInv_sp (c' := c') h0 hs h hc
  have hb := tInv_b h0 hs h
  rw [if_neg (by rw [← ex]; exact hk), if_pos (by omega)] at h5
  have a1 : c'.toInt = c.toInt + 1 := by rw [ec]; exact i_addE rfl (by decide) (by omega)
  have a2 : t'.toInt = t.toInt + (-1) := by rw [et]; exact i_addE rfl (by decide) (by omega)
  refine ⟨by omega, by omega, d - 1, ?_, by omega⟩
  rw [show (c'.toInt - a.toInt).toNat = (c.toInt - a.toInt).toNat + 1 by omega]
  exact h5
theorem seg_var {M : gM} {a b c t x : Int32} (h0 : 0 ≤ a.toInt) (hs : segOk M a.toInt.toNat b.toInt.toNat) (h : tInv M a b c t) (hc : c.toInt < b.toInt) (ex : x = M 431 c.toNatClampNeg) (hk : x.toInt < 2) (hne : ¬ x = 0) : 0 ≤ (M 432 c.toNatClampNeg).toInt ∧ (M 432 c.toNatClampNeg).toInt < 9 := by
  have hb := tInv_b h0 hs h
  have hcl := clampN (i := c) (by omega)
  have g := hs.2.2.2.2 c.toInt.toNat (by omega) (by omega)
  rw [hcl]
  rw [ex, hcl] at hk hne
  have h1 : (M 431 c.toInt.toNat).toInt = 1 := by
    have : ¬ (M 431 c.toInt.toNat).toInt = 0 := fun q => hne (Int32.toInt_inj.mp (q.trans (by decide)))
    omega
  exact g.2 h1
theorem lawOk.at {M : gM} {i : Nat} (h : lawOk M i) {v : Int32} (h0 : 0 ≤ v.toInt) (h1 : (M 424 i).toInt ≤ v.toInt) (h2 : v.toInt < (M 425 i).toInt) :
    (M 426 v.toNatClampNeg ≠ 0 → 0 ≤ (M 427 v.toNatClampNeg).toInt) ∧ 0 ≤ (M 429 v.toNatClampNeg).toInt ∧ (M 426 v.toNatClampNeg ≠ 0 → 0 ≤ (M 428 v.toNatClampNeg).toInt ∧ segOk M (M 427 v.toNatClampNeg).toInt.toNat (M 428 v.toNatClampNeg).toInt.toNat ∧ segOk M (M 428 v.toNatClampNeg).toInt.toNat (M 429 v.toNatClampNeg).toInt.toNat) ∧ 0 ≤ (M 430 v.toNatClampNeg).toInt ∧ segOk M (M 429 v.toNatClampNeg).toInt.toNat (M 430 v.toNatClampNeg).toInt.toNat := by
  have hcl := i_cl (x := v) (by rw [i_lt, Int32.toInt_zero]; omega)
  exact h.2.2 _ (by omega) (by omega)
theorem seg_k {M : gM} {a b c t : Int32} (h0 : 0 ≤ a.toInt) (hs : segOk M a.toInt.toNat b.toInt.toNat) (h : tInv M a b c t) (hc : c.toInt < b.toInt) : 0 ≤ (M 431 c.toNatClampNeg).toInt ∧ (M 431 c.toNatClampNeg).toInt ≤ 5 := by
  have hb := tInv_b h0 hs h
  have hcl := clampN (i := c) (by omega)
  have g := hs.2.2.2.2 c.toInt.toNat (by omega) (by omega)
  rw [hcl]
  exact g.1
theorem pow6_4 {n : Int32} (h : n.toInt ≤ 4) : (((6 : Nat) : Int)) ^ n.toInt.toNat ≤ 1296 := by
  have h1 : (6 : Nat) ^ n.toInt.toNat ≤ 6 ^ 4 := Nat.pow_le_pow_right (by decide) (by omega)
  rw [← Int.natCast_pow]
  omega
