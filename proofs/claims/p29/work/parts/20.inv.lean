section MG2x0
/-! arithmetic of indices, over toInt -/
theorem i_addE {x y : Int32} {a b : Int} (hx : x.toInt = a) (hy : y.toInt = b) (h : -2147483648 ≤ a + b ∧ a + b < 2147483648) : (x + y).toInt = a + b := by
  rw [Int32.toInt_add, hx, hy, Int.bmod_eq_of_le (by omega) (by omega)]
theorem i_subE {x y : Int32} {a b : Int} (hx : x.toInt = a) (hy : y.toInt = b) (h : -2147483648 ≤ a - b ∧ a - b < 2147483648) : (x - y).toInt = a - b := by
  rw [Int32.toInt_sub, hx, hy, Int.bmod_eq_of_le (by omega) (by omega)]
theorem i_mulE {x y : Int32} {a b : Int} (hx : x.toInt = a) (hy : y.toInt = b) (h : -2147483648 ≤ a * b ∧ a * b < 2147483648) : (x * y).toInt = a * b := by
  rw [Int32.toInt_mul, hx, hy, Int.bmod_eq_of_le (by omega) (by omega)]
theorem i_nI {x : Int32} (h : 0 ≤ x.toInt) : x = nI x.toInt.toNat := by
  have h1 : ¬ x < 0 := by rw [i_lt, Int32.toInt_zero]; omega
  obtain ⟨j, hj, e⟩ := nI_of h1
  have e2 : x.toInt = (j : Int) := by rw [e]; exact nI_toInt hj
  rw [e2]
  exact e
theorem i_divE {x y : Int32} {a b : Int} (hx : x.toInt = a) (hy : y.toInt = b) (h0 : 0 ≤ a) (h1 : 0 < b) : (x / y).toInt = a / b := by
  have bx := i_b x
  have b2 := i_b y
  have e1 := i_nI (x := x) (by omega)
  have e2 := i_nI (x := y) (by omega)
  rw [hx] at e1
  rw [hy] at e2
  have l1 : a.toNat < 2 ^ 31 := by omega
  have l2 : b.toNat < 2 ^ 31 := by omega
  rw [e1, e2, pk_div l1 (by omega) l2, nI_toInt (Nat.lt_of_le_of_lt (Nat.div_le_self _ _) l1)]
  rw [Int.natCast_ediv, Int.toNat_of_nonneg h0, Int.toNat_of_nonneg (by omega)]
theorem i_remE {x y : Int32} {a b : Int} (hx : x.toInt = a) (hy : y.toInt = b) (h0 : 0 ≤ a) (h1 : 0 < b) : (x - x / y * y).toInt = a % b := by
  have bx := i_b x
  have b2 := i_b y
  have e1 := i_nI (x := x) (by omega)
  have e2 := i_nI (x := y) (by omega)
  rw [hx] at e1
  rw [hy] at e2
  have l1 : a.toNat < 2 ^ 31 := by omega
  have l2 : b.toNat < 2 ^ 31 := by omega
  rw [e1, e2, pk_rem l1 (by omega) l2, nI_toInt (Nat.lt_of_le_of_lt (Nat.mod_le _ _) l1)]
  rw [Int.natCast_emod, Int.toNat_of_nonneg h0, Int.toNat_of_nonneg (by omega)]
theorem vin_i {x : Int32} {N : Nat} (h0 : 0 ≤ x.toInt) (h1 : x.toInt < N) : vp_in x N := vin_c (by rw [i_lt, Int32.toInt_zero]; omega) h1
theorem bp_t {r : Int32} {P : Prop} (hb : (r = 0 ∧ ¬ P) ∨ (r = 1 ∧ P)) (h : ¬ r = 0) : P := by
  rcases hb with ⟨e, _⟩ | ⟨_, p⟩
  · exact absurd e h
  · exact p
theorem bp_f {r : Int32} {P : Prop} (hb : (r = 0 ∧ ¬ P) ∨ (r = 1 ∧ P)) (h : r = 0) : ¬ P := by
  rcases hb with ⟨_, p⟩ | ⟨e, _⟩
  · exact p
  · rw [h] at e; exact absurd e (by decide)
theorem bp_01 {r : Int32} {P : Prop} (hb : (r = 0 ∧ ¬ P) ∨ (r = 1 ∧ P)) : r = 0 ∨ r = 1 := hb.imp (fun h => h.1) (fun h => h.1)
theorem bp_iff {r : Int32} {P P' : Prop} (hb : (r = 0 ∧ ¬ P) ∨ (r = 1 ∧ P)) (h : P ↔ P') : (r = 0 ∧ ¬ P') ∨ (r = 1 ∧ P') := hb.imp (fun g => ⟨g.1, fun q => g.2 (h.mpr q)⟩) (fun g => ⟨g.1, h.mp g.2⟩)
def Kl (S : Nat → Nat → Bool) (M : gM) (L : gL) (M' : gM) (L' : gL) : Prop := ∀ c j, S c j = false → M' c j = M c j ∧ L' c j = L c j
theorem Kl.rf {S : Nat → Nat → Bool} {M : gM} {L : gL} : Kl S M L M L := fun _ _ _ => ⟨rfl, rfl⟩
theorem Kl.trans {S : Nat → Nat → Bool} {M M1 M2 : gM} {L L1 L2 : gL} (h : Kl S M L M1 L1) (g : Kl S M1 L1 M2 L2) : Kl S M L M2 L2 := fun c j hc => ⟨(g c j hc).1.trans (h c j hc).1, (g c j hc).2.trans (h c j hc).2⟩
theorem Kl.mono {S S' : Nat → Nat → Bool} {M M' : gM} {L L' : gL} (h : Kl S M L M' L') (f : ∀ c j, S c j = true → S' c j = true) : Kl S' M L M' L' := fun c j hc => h c j (by
  cases e : S c j with
  | false => rfl
  | true => rw [f c j e] at hc; cases hc)
theorem Kl.wM {S : Nat → Nat → Bool} {M M1 M2 : gM} {L L1 : gL} {a i : Nat} {x : Int32} (h : Kl S M L M1 L1) (ha : S a i = true) (e : M2 = uM M1 a i x) : Kl S M L M2 L1 := fun c j hc => by
  have hne : ¬ (c = a ∧ j = i) := fun q => by rw [q.1, q.2, ha] at hc; cases hc
  exact ⟨by rw [e, uM_at, if_neg hne]; exact (h c j hc).1, (h c j hc).2⟩
theorem Kl.wL {S : Nat → Nat → Bool} {M M1 : gM} {L L1 L2 : gL} {a i : Nat} {x : Int64} (h : Kl S M L M1 L1) (ha : S a i = true) (e : L2 = uL L1 a i x) : Kl S M L M1 L2 := fun c j hc => by
  have hne : ¬ (c = a ∧ j = i) := fun q => by rw [q.1, q.2, ha] at hc; cases hc
  exact ⟨(h c j hc).1, by rw [e, uL_at, if_neg hne]; exact (h c j hc).2⟩
theorem Kl.m {S : Nat → Nat → Bool} {M M' : gM} {L L' : gL} (h : Kl S M L M' L') {c j : Nat} (hc : S c j = false) : M' c j = M c j := (h c j hc).1
theorem Kl.l {S : Nat → Nat → Bool} {M M' : gM} {L L' : gL} (h : Kl S M L M' L') {c j : Nat} (hc : S c j = false) : L' c j = L c j := (h c j hc).2
def MS0 (c j : Nat) : Bool := c == 434 || c == 435 || (c == 401 && j == 51)
def MS1 (c j : Nat) : Bool := MS0 c j || c == 437 || c == 438 || c == 439 || c == 444 || (c == 401 && (j == 54 || j == 59 || j == 60 || j == 61 || j == 62 || j == 63))
theorem MS0_MS1 : ∀ c j, MS0 c j = true → MS1 c j = true := fun c j h => by unfold MS1; rw [h]; rfl
/-- how deep the pile stands behind k instructions of a law's row, begun at a -/
def vdp (M : gM) (a : Nat) : Nat → Option Nat
  | 0 => some 0
  | k + 1 => match vdp M a k with
    | none => none
    | some d => if (M 431 (a + k)).toInt < 2 then some (d + 1) else if 2 ≤ d then some (d - 1) else none
def segOk (M : gM) (a b : Nat) : Prop := a < b ∧ b ≤ 840 ∧ b - a ≤ 400 ∧ vdp M a (b - a) = some 1 ∧ ∀ j, a ≤ j → j < b → (0 ≤ (M 431 j).toInt ∧ (M 431 j).toInt ≤ 5) ∧ ((M 431 j).toInt = 1 → 0 ≤ (M 432 j).toInt ∧ (M 432 j).toInt < 9)
def lawOk (M : gM) (at_ : Nat) : Prop := 0 ≤ (M 424 at_).toInt ∧ (M 425 at_).toInt ≤ 260 ∧ ∀ b : Nat, (M 424 at_).toInt ≤ b → (b : Int) < (M 425 at_).toInt →
  (M 426 b ≠ 0 → 0 ≤ (M 427 b).toInt) ∧ 0 ≤ (M 429 b).toInt ∧ (M 426 b ≠ 0 → 0 ≤ (M 428 b).toInt ∧ segOk M (M 427 b).toInt.toNat (M 428 b).toInt.toNat ∧ segOk M (M 428 b).toInt.toNat (M 429 b).toInt.toNat) ∧ 0 ≤ (M 430 b).toInt ∧ segOk M (M 429 b).toInt.toNat (M 430 b).toInt.toNat
/-- what holds of the model between calls -/
def Inv (M : gM) : Prop := (0 ≤ (M 401 18).toInt ∧ (M 401 18).toInt ≤ 1) ∧ (∀ i, 0 ≤ (M 411 i).toInt ∧ (M 411 i).toInt ≤ 6) ∧ (∀ i, 0 ≤ (M 415 i).toInt ∧ (M 415 i).toInt ≤ 5) ∧ (∀ i, 0 ≤ (M 418 i).toInt ∧ (M 418 i).toInt ≤ 4) ∧ (∀ i, 0 ≤ (M 420 i).toInt ∧ (M 420 i).toInt ≤ 6) ∧
  (0 ≤ (M 401 57).toInt ∧ (M 401 57).toInt ≤ 40) ∧ (0 ≤ (M 401 64).toInt ∧ (M 401 64).toInt ≤ 20) ∧ (∀ i : Nat, (i : Int) < (M 401 64).toInt → 0 ≤ (M 441 i).toInt ∧ (M 441 i).toInt ≤ 2) ∧
  (∀ i : Nat, 6 * (M 401 18).toInt ≤ i → (i : Int) < 6 * (M 401 18).toInt + (M 420 (M 401 18).toInt.toNat).toInt → 0 ≤ (M 421 i).toInt ∧ (M 421 i).toInt ≤ 2) ∧
  (0 < (M 415 (M 401 18).toInt.toNat).toInt → 0 < (M 411 (M 401 18).toInt.toNat).toInt) ∧ (∀ k, k < 4 → lawOk M ((4 * (M 401 18).toInt).toNat + k))
/-- the places that Inv speaks of -/
def invL (c j : Nat) : Bool := (c == 401 && (j == 18 || j == 57 || j == 64)) || (decide (411 ≤ c) && decide (c ≤ 432)) || c == 441
theorem vdp_keep {M M' : gM} {a : Nat} (h : ∀ j, M' 431 j = M 431 j) : ∀ k, vdp M' a k = vdp M a k := by
  intro k
  induction k with
  | zero => rfl
  | succ k ih => simp only [vdp, ih, h]
theorem segOk.keep {M M' : gM} {a b : Nat} (h : ∀ c j, invL c j = true → M' c j = M c j) (g : segOk M a b) : segOk M' a b := by
  have e1 : ∀ j, M' 431 j = M 431 j := fun j => h 431 j rfl
  have e2 : ∀ j, M' 432 j = M 432 j := fun j => h 432 j rfl
  unfold segOk at g ⊢
  rw [vdp_keep e1]
  simp only [e1, e2]
  exact g
theorem lawOk.keep {M M' : gM} {k : Nat} (h : ∀ c j, invL c j = true → M' c j = M c j) (g : lawOk M k) : lawOk M' k := by
  have e : ∀ c j, invL c j = true → M' c j = M c j := h
  unfold lawOk at g ⊢
  rw [e 424 _ rfl, e 425 _ rfl]
  refine ⟨g.1, g.2.1, fun b h1 h2 => ?_⟩
  have g3 := g.2.2 b h1 h2
  rw [e 427 _ rfl, e 429 _ rfl, e 426 _ rfl, e 428 _ rfl, e 430 _ rfl]
  exact ⟨g3.1, g3.2.1, fun hb => ⟨(g3.2.2.1 hb).1, segOk.keep h (g3.2.2.1 hb).2.1, segOk.keep h (g3.2.2.1 hb).2.2⟩, g3.2.2.2.1, segOk.keep h g3.2.2.2.2⟩
theorem Inv.keep' {M M' : gM} (h : ∀ c j, invL c j = true → M' c j = M c j) (g : Inv M) : Inv M' := by
  unfold Inv at g ⊢
  have e18 : M' 401 18 = M 401 18 := h 401 18 rfl
  have e411 : ∀ i, M' 411 i = M 411 i := fun i => h 411 i rfl
  have e415 : ∀ i, M' 415 i = M 415 i := fun i => h 415 i rfl
  have e418 : ∀ i, M' 418 i = M 418 i := fun i => h 418 i rfl
  have e420 : ∀ i, M' 420 i = M 420 i := fun i => h 420 i rfl
  have e421 : ∀ i, M' 421 i = M 421 i := fun i => h 421 i rfl
  have e441 : ∀ i, M' 441 i = M 441 i := fun i => h 441 i rfl
  have e57 : M' 401 57 = M 401 57 := h 401 57 rfl
  have e64 : M' 401 64 = M 401 64 := h 401 64 rfl
  simp only [e18, e411, e415, e418, e420, e421, e441, e57, e64]
  obtain ⟨g1, g2, g3, g4, g5, g6, g7, g8, g9, g10, g11⟩ := g
  exact ⟨g1, g2, g3, g4, g5, g6, g7, g8, g9, g10, fun k hk => (g11 k hk).keep h⟩
theorem Inv.keep {S : Nat → Nat → Bool} {M M' : gM} {L L' : gL} (g : Inv M) (hS : ∀ c j, invL c j = true → S c j = false) (h : Kl S M L M' L') : Inv M' := g.keep' (fun c j hc => h.m (hS c j hc))
theorem inv_MS1 : ∀ c j, invL c j = true → MS1 c j = false := by
  intro c j h
  simp only [invL, Bool.or_eq_true, Bool.and_eq_true, beq_iff_eq, decide_eq_true_eq] at h
  simp only [MS1, MS0, Bool.or_eq_false_iff, Bool.and_eq_false_iff, beq_eq_false_iff_ne]
  omega
theorem inv_MS0 : ∀ c j, invL c j = true → MS0 c j = false := fun c j h => by
  have := inv_MS1 c j h
  cases e : MS0 c j with
  | false => rfl
  | true => rw [MS0_MS1 c j e] at this; cases this
theorem Inv.live {M : gM} (h : Inv M) : 0 ≤ (M 401 18).toInt ∧ (M 401 18).toInt ≤ 1 := h.1
theorem Inv.foods {M : gM} (h : Inv M) (i : Nat) : 0 ≤ (M 411 i).toInt ∧ (M 411 i).toInt ≤ 6 := h.2.1 i
theorem Inv.dishes {M : gM} (h : Inv M) (i : Nat) : 0 ≤ (M 415 i).toInt ∧ (M 415 i).toInt ≤ 5 := h.2.2.1 i
theorem Inv.guests {M : gM} (h : Inv M) (i : Nat) : 0 ≤ (M 418 i).toInt ∧ (M 418 i).toInt ≤ 4 := h.2.2.2.1 i
theorem Inv.deeds {M : gM} (h : Inv M) (i : Nat) : 0 ≤ (M 420 i).toInt ∧ (M 420 i).toInt ≤ 6 := h.2.2.2.2.1 i
theorem Inv.undos {M : gM} (h : Inv M) : 0 ≤ (M 401 57).toInt ∧ (M 401 57).toInt ≤ 40 := h.2.2.2.2.2.1
theorem Inv.tolds {M : gM} (h : Inv M) : 0 ≤ (M 401 64).toInt ∧ (M 401 64).toInt ≤ 20 := h.2.2.2.2.2.2.1
theorem Inv.told {M : gM} (h : Inv M) {i : Int32} (h0 : 0 ≤ i.toInt) (h1 : i.toInt < (M 401 64).toInt) : 0 ≤ (M 441 i.toNatClampNeg).toInt ∧ (M 441 i.toNatClampNeg).toInt ≤ 2 := by
  have e := i_cl (x := i) (by rw [i_lt, Int32.toInt_zero]; omega)
  exact h.2.2.2.2.2.2.2.1 _ (by omega)
theorem clampN {i : Int32} (h0 : 0 ≤ i.toInt) : i.toNatClampNeg = i.toInt.toNat := by
  have e := i_cl (x := i) (by rw [i_lt, Int32.toInt_zero]; omega)
  omega
theorem Inv.force {M : gM} (h : Inv M) {i : Int32} {e : Int} (hi : i.toInt = 6 * (M 401 18).toInt + e) (h0 : 0 ≤ e) (h1 : e < (M 420 (M 401 18).toNatClampNeg).toInt) : 0 ≤ (M 421 i.toNatClampNeg).toInt ∧ (M 421 i.toNatClampNeg).toInt ≤ 2 := by
  have hl := h.live
  rw [clampN hl.1] at h1
  have e1 := i_cl (x := i) (by rw [i_lt, Int32.toInt_zero]; omega)
  exact h.2.2.2.2.2.2.2.2.1 _ (by omega) (by omega)
theorem Inv.some {M : gM} (h : Inv M) (h1 : 0 < (M 415 (M 401 18).toNatClampNeg).toInt) : 0 < (M 411 (M 401 18).toNatClampNeg).toInt := by
  rw [clampN h.live.1] at h1 ⊢
  exact h.2.2.2.2.2.2.2.2.2.1 h1
theorem Inv.law {M : gM} (h : Inv M) {i : Int32} {k : Int} (hi : i.toInt = 4 * (M 401 18).toInt + k) (h0 : 0 ≤ k) (h1 : k < 4) : lawOk M i.toNatClampNeg := by
  have hl := h.live
  have e := h.2.2.2.2.2.2.2.2.2.2 k.toNat (by omega)
  have e1 : i.toNatClampNeg = (4 * (M 401 18).toInt).toNat + k.toNat := by
    rw [clampN (by omega), hi]; omega
  rw [e1]
  exact e
theorem powN_le {b k : Nat} (hb : 0 < b) (h : k ≤ 7) : 1 ≤ b ^ k ∧ b ^ k ≤ b ^ 7 := ⟨Nat.pos_of_ne_zero (by have := Nat.pow_pos (n := k) hb; omega), Nat.pow_le_pow_right hb h⟩
theorem powI_le (b : Nat) (hb : 0 < b) {k : Nat} (h : k ≤ 7) : 1 ≤ (b : Int) ^ k ∧ (b : Int) ^ k ≤ ((b ^ 7 : Nat) : Int) := by
  have h1 := powN_le hb h
  rw [← Int.natCast_pow]
  omega
theorem pow_step (b : Nat) (hb : 0 < b) (hb7 : b ^ 7 < 2147483648) {v v' w w' n bI : Int32} (hbI : bI.toInt = b) (hn : v.toInt ≤ n.toInt ∧ w.toInt = (b : Int) ^ v.toInt.toNat) (hn7 : n.toInt ≤ 7) (h0 : 0 ≤ v.toInt) (hc : v.toInt < n.toInt) (e1 : v' = v + 1) (e2 : w' = w * bI) : v'.toInt ≤ n.toInt ∧ w'.toInt = (b : Int) ^ v'.toInt.toNat := by
  have a1 : v'.toInt = v.toInt + 1 := by rw [e1]; exact i_addE rfl (by decide) (by omega)
  have a2 : v'.toInt.toNat = v.toInt.toNat + 1 := by omega
  have a3 := powI_le b hb (k := v.toInt.toNat + 1) (by omega)
  have a4 : (b : Int) ^ (v.toInt.toNat + 1) = (b : Int) ^ v.toInt.toNat * b := Int.pow_succ _ _
  refine ⟨by omega, ?_⟩
  rw [a2, a4, e2]
  exact i_mulE hn.2 hbI (by omega)
theorem pow_fin (b : Nat) (hb : 0 < b) {v w n : Int32} (hn : v.toInt ≤ n.toInt ∧ w.toInt = (b : Int) ^ v.toInt.toNat) (hn7 : n.toInt ≤ 7) (hc : n.toInt ≤ v.toInt) : w.toInt = (b : Int) ^ n.toInt.toNat ∧ 1 ≤ w.toInt ∧ w.toInt ≤ ((b ^ 7 : Nat) : Int) := by
  have e : v.toInt = n.toInt := by omega
  have h1 := powI_le b hb (k := n.toInt.toNat) (by omega)
  rw [hn.2, e]
  exact ⟨rfl, h1⟩
theorem ushr1_nn (x : Int32) : 0 ≤ ((x.toUInt32 >>> ((1 : Int32).toUInt32 &&& Int32.toUInt32 31)).toInt32).toInt := by
  have h := pk_ushr x 1 1 (by decide)
  have hx : x.toBitVec.toNat < 2 ^ 32 := x.toBitVec.isLt
  rw [← Int32.toInt_toBitVec, BitVec.toInt_eq_toNat_cond]
  rw [h]
  split <;> omega
theorem lot_rng {x n : Int32} (h : 0 < n.toInt) : 0 ≤ ((x.toUInt32 >>> ((1 : Int32).toUInt32 &&& Int32.toUInt32 31)).toInt32 - (x.toUInt32 >>> ((1 : Int32).toUInt32 &&& Int32.toUInt32 31)).toInt32 / n * n).toInt ∧ ((x.toUInt32 >>> ((1 : Int32).toUInt32 &&& Int32.toUInt32 31)).toInt32 - (x.toUInt32 >>> ((1 : Int32).toUInt32 &&& Int32.toUInt32 31)).toInt32 / n * n).toInt < n.toInt := by
  rw [i_remE rfl rfl (ushr1_nn x) h]
  exact ⟨Int.emod_nonneg _ (by omega), Int.emod_lt_of_pos _ h⟩
theorem vdp_le {M : gM} {a : Nat} : ∀ {k d : Nat}, vdp M a k = some d → d ≤ k
  | 0, d, h => by simp [vdp] at h; omega
  | k + 1, d, h => by
    simp only [vdp] at h
    cases e : vdp M a k with
    | none => rw [e] at h; cases h
    | some d0 =>
      have := vdp_le e
      rw [e] at h
      simp only at h
      split at h
      · injection h; omega
      · split at h
        · injection h; omega
        · cases h
theorem vdp_pre {M : gM} {a k : Nat} : ∀ j, vdp M a (k + j) ≠ none → vdp M a k ≠ none
  | 0, h => h
  | j + 1, h => vdp_pre j (fun e => h (by show vdp M a (k + j + 1) = none; simp only [vdp, e]))
def tInv (M : gM) (a b c t : Int32) : Prop := a.toInt ≤ c.toInt ∧ c.toInt ≤ b.toInt ∧ ∃ d : Nat, vdp M a.toInt.toNat (c.toInt - a.toInt).toNat = some d ∧ t.toInt = d
theorem tInv_0 {M : gM} {a b : Int32} (h0 : 0 ≤ a.toInt) (hs : segOk M a.toInt.toNat b.toInt.toNat) : tInv M a b a 0 := by
  have h1 := hs.1
  refine ⟨Int.le_refl _, by omega, 0, ?_, rfl⟩
  rw [Int.sub_self]; rfl
theorem tInv_b {M : gM} {a b c t : Int32} (h0 : 0 ≤ a.toInt) (hs : segOk M a.toInt.toNat b.toInt.toNat) (h : tInv M a b c t) : 0 ≤ t.toInt ∧ t.toInt ≤ c.toInt - a.toInt ∧ a.toInt ≤ c.toInt ∧ c.toInt ≤ b.toInt ∧ b.toInt - a.toInt ≤ 400 ∧ b.toInt ≤ 840 := by
  obtain ⟨h1, h2, d, h3, h4⟩ := h
  have := vdp_le h3
  have g1 := hs.1
  have g2 := hs.2.1
  have g3 := hs.2.2.1
  omega
theorem tInv_sp {M : gM} {a b c c' t : Int32} (h0 : 0 ≤ a.toInt) (hs : segOk M a.toInt.toNat b.toInt.toNat) (h : tInv M a b c t) (hc : c.toInt < b.toInt) : ∃ d : Nat, t.toInt = d ∧ vdp M a.toInt.toNat ((c.toInt - a.toInt).toNat + 1) = (if (M 431 c.toNatClampNeg).toInt < 2 then some (d + 1) else if 2 ≤ d then some (d - 1) else none) ∧ vdp M a.toInt.toNat ((c.toInt - a.toInt).toNat + 1) ≠ none := by
  obtain ⟨h1, h2, d, h3, h4⟩ := h
  have hcl := clampN (i := c) (by omega)
  refine ⟨d, h4, ?_, ?_⟩
  · simp only [vdp, h3]
    rw [hcl, show a.toInt.toNat + (c.toInt - a.toInt).toNat = c.toInt.toNat by omega]
  · have g := hs.2.2.2.1
    have g1 := hs.1
    apply vdp_pre ((b.toInt.toNat - a.toInt.toNat) - ((c.toInt - a.toInt).toNat + 1))
    rw [show (c.toInt - a.toInt).toNat + 1 + ((b.toInt.toNat - a.toInt.toNat) - ((c.toInt - a.toInt).toNat + 1)) = b.toInt.toNat - a.toInt.toNat by omega, g]
    intro e; cases e
theorem tInv_push {M : gM} {a b c c' t t' x : Int32} (h0 : 0 ≤ a.toInt) (hs : segOk M a.toInt.toNat b.toInt.toNat) (h : tInv M a b c t) (hc : c.toInt < b.toInt) (ex : x = M 431 c.toNatClampNeg) (hk : x.toInt < 2) (ec : c' = c + 1) (et : t' = t + 1) : tInv M a b c' t' := by
  obtain ⟨d, h4, h5, -⟩ := tInv_sp (c' := c') h0 hs h hc
  have hb := tInv_b h0 hs h
  rw [if_pos (by rw [← ex]; exact hk)] at h5
  have a1 : c'.toInt = c.toInt + 1 := by rw [ec]; exact i_addE rfl (by decide) (by omega)
  have a2 : t'.toInt = t.toInt + 1 := by rw [et]; exact i_addE rfl (by decide) (by omega)
  refine ⟨by omega, by omega, d + 1, ?_, by omega⟩
  rw [show (c'.toInt - a.toInt).toNat = (c.toInt - a.toInt).toNat + 1 by omega]
  exact h5
theorem tInv_op {M : gM} {a b c t x : Int32} (h0 : 0 ≤ a.toInt) (hs : segOk M a.toInt.toNat b.toInt.toNat) (h : tInv M a b c t) (hc : c.toInt < b.toInt) (ex : x = M 431 c.toNatClampNeg) (hk : ¬ x.toInt < 2) : 2 ≤ t.toInt := by
  obtain ⟨d, h4, h5, h6⟩ := tInv_sp (c' := c) h0 hs h hc
  rw [if_neg (by rw [← ex]; exact hk)] at h5
  rcases Nat.lt_or_ge d 2 with g | g
  · rw [if_neg (by omega)] at h5
    exact absurd h5 h6
  · omega
theorem tInv_pop {M : gM} {a b c c' t t' x : Int32} (h0 : 0 ≤ a.toInt) (hs : segOk M a.toInt.toNat b.toInt.toNat) (h : tInv M a b c t) (hc : c.toInt < b.toInt) (ex : x = M 431 c.toNatClampNeg) (hk : ¬ x.toInt < 2) (ec : c' = c + 1) (et : t' = t + (-1)) : tInv M a b c' t' := by
  have h2 := tInv_op h0 hs h hc ex hk
  obtain ⟨d, h4, h5, h6⟩ := tInv_sp (c' := c') h0 hs h hc
  have hb := tInv_b h0 hs h
  rw [if_neg (by rw [← ex]; exact hk), if_pos (by omega)] at h5
  have a1 : c'.toInt = c.toInt + 1 := by rw [ec]; exact i_addE rfl (by decide) (by omega)
  have a2 : t'.toInt = t.toInt + (-1) := by rw [et]; exact i_addE rfl (by decide) (by omega)
  refine ⟨by omega, by omega, d - 1, ?_, by omega⟩
  rw [show (c'.toInt - a.toInt).toNat = (c.toInt - a.toInt).toNat + 1 by omega]
  exact h5
theorem seg_var {M : gM} {a b c t x : Int32} (h0 : 0 ≤ a.toInt) (hs : segOk M a.toInt.toNat b.toInt.toNat) (h : tInv M a b c t) (hc : c.toInt < b.toInt) (ex : x = M 431 c.toNatClampNeg) (hk : x.toInt < 2) (hne : ¬ x = 0) : 0 ≤ (M 432 c.toNatClampNeg).toInt ∧ (M 432 c.toNatClampNeg).toInt < 9 := by
  have hb := tInv_b h0 hs h
  have hcl := clampN (i := c) (by omega)
  have g := hs.2.2.2.2 c.toInt.toNat (by omega) (by omega)
  rw [hcl]
  rw [ex, hcl] at hk hne
  have h1 : (M 431 c.toInt.toNat).toInt = 1 := by
    have : ¬ (M 431 c.toInt.toNat).toInt = 0 := fun q => hne (Int32.toInt_inj.mp (q.trans (by decide)))
    omega
  exact g.2 h1
theorem lawOk.at {M : gM} {i : Nat} (h : lawOk M i) {v : Int32} (h0 : 0 ≤ v.toInt) (h1 : (M 424 i).toInt ≤ v.toInt) (h2 : v.toInt < (M 425 i).toInt) :
    (M 426 v.toNatClampNeg ≠ 0 → 0 ≤ (M 427 v.toNatClampNeg).toInt) ∧ 0 ≤ (M 429 v.toNatClampNeg).toInt ∧ (M 426 v.toNatClampNeg ≠ 0 → 0 ≤ (M 428 v.toNatClampNeg).toInt ∧ segOk M (M 427 v.toNatClampNeg).toInt.toNat (M 428 v.toNatClampNeg).toInt.toNat ∧ segOk M (M 428 v.toNatClampNeg).toInt.toNat (M 429 v.toNatClampNeg).toInt.toNat) ∧ 0 ≤ (M 430 v.toNatClampNeg).toInt ∧ segOk M (M 429 v.toNatClampNeg).toInt.toNat (M 430 v.toNatClampNeg).toInt.toNat := by
  have hcl := i_cl (x := v) (by rw [i_lt, Int32.toInt_zero]; omega)
  exact h.2.2 _ (by omega) (by omega)
theorem seg_k {M : gM} {a b c t : Int32} (h0 : 0 ≤ a.toInt) (hs : segOk M a.toInt.toNat b.toInt.toNat) (h : tInv M a b c t) (hc : c.toInt < b.toInt) : 0 ≤ (M 431 c.toNatClampNeg).toInt ∧ (M 431 c.toNatClampNeg).toInt ≤ 5 := by
  have hb := tInv_b h0 hs h
  have hcl := clampN (i := c) (by omega)
  have g := hs.2.2.2.2 c.toInt.toNat (by omega) (by omega)
  rw [hcl]
  exact g.1
theorem pow6_4 {n : Int32} (h : n.toInt ≤ 4) : (((6 : Nat) : Int)) ^ n.toInt.toNat ≤ 1296 := by
  have h1 : (6 : Nat) ^ n.toInt.toNat ≤ 6 ^ 4 := Nat.pow_le_pow_right (by decide) (by omega)
  rw [← Int.natCast_pow]
  omega
end MG2x0
section MG2x1
def yj_coder : gY := (⟨"java/lang/String", "coder", "()B"⟩, prog_17_method_152_code, 1, (some .byte), 0)
theorem dj_coder_0 : decode prog_17_method_152_code 0 = .ok (.getstatic 38, 3) := by decide +kernel
theorem dj_coder_3 : decode prog_17_method_152_code 3 = .ok (.ifCond .eq 10, 3) := by decide +kernel
theorem dj_coder_6 : decode prog_17_method_152_code 6 = .ok (.aload_n 0, 1) := by decide +kernel
theorem dj_coder_7 : decode prog_17_method_152_code 7 = .ok (.getfield 15, 3) := by decide +kernel
theorem dj_coder_10 : decode prog_17_method_152_code 10 = .ok (.goto 4, 3) := by decide +kernel
theorem dj_coder_13 : decode prog_17_method_152_code 13 = .ok (.iconst 1, 1) := by decide +kernel
theorem dj_coder_14 : decode prog_17_method_152_code 14 = .ok (.ireturn, 1) := by decide +kernel
set_option maxRecDepth 100000 in
theorem kj_coder : Cond.code yj_coder.1 yj_coder.2.1 yj_coder.2.2.1 yj_coder.2.2.2.1 ∈ gtb ∧ Cond.initialized yj_coder.1.cls ∈ gtb ∧ yj_coder.1.cls ≠ "java/lang/invoke/MethodHandle" ∧ yj_coder.1.cls ≠ "java/lang/invoke/VarHandle" ∧ (parseMethodDescriptor yj_coder.1.desc).map (fun d => d.parameters.length) = some 0 := ⟨(gk_1 (List.mem_of_getElem? (i := 64) rfl) rfl), (gk_1 (List.mem_of_getElem? (i := 5) rfl) rfl), by decide +kernel, by decide +kernel, by decide +kernel⟩
set_option maxRecDepth 100000 in
theorem ij_coder : Cond.instanceMethod yj_coder.1 ∈ gtb := (gk_1 (List.mem_of_getElem? (i := 62) rfl) rfl)
set_option maxRecDepth 100000 in
theorem vj_coder : Cond.selects yj_coder.1.cls yj_coder.1 yj_coder.1 ∈ gtb := (gk_1 (List.mem_of_getElem? (i := 63) rfl) rfl)
def yj_isLatin1 : gY := (⟨"java/lang/String", "isLatin1", "()Z"⟩, prog_17_method_154_code, 1, (some .boolean), 0)
theorem dj_isLatin1_0 : decode prog_17_method_154_code 0 = .ok (.getstatic 38, 3) := by decide +kernel
theorem dj_isLatin1_3 : decode prog_17_method_154_code 3 = .ok (.ifCond .eq 14, 3) := by decide +kernel
theorem dj_isLatin1_6 : decode prog_17_method_154_code 6 = .ok (.aload_n 0, 1) := by decide +kernel
theorem dj_isLatin1_7 : decode prog_17_method_154_code 7 = .ok (.getfield 15, 3) := by decide +kernel
theorem dj_isLatin1_10 : decode prog_17_method_154_code 10 = .ok (.ifCond .ne 7, 3) := by decide +kernel
theorem dj_isLatin1_13 : decode prog_17_method_154_code 13 = .ok (.iconst 1, 1) := by decide +kernel
theorem dj_isLatin1_14 : decode prog_17_method_154_code 14 = .ok (.goto 4, 3) := by decide +kernel
theorem dj_isLatin1_17 : decode prog_17_method_154_code 17 = .ok (.iconst 0, 1) := by decide +kernel
theorem dj_isLatin1_18 : decode prog_17_method_154_code 18 = .ok (.ireturn, 1) := by decide +kernel
set_option maxRecDepth 100000 in
theorem kj_isLatin1 : Cond.code yj_isLatin1.1 yj_isLatin1.2.1 yj_isLatin1.2.2.1 yj_isLatin1.2.2.2.1 ∈ gtb ∧ Cond.initialized yj_isLatin1.1.cls ∈ gtb ∧ yj_isLatin1.1.cls ≠ "java/lang/invoke/MethodHandle" ∧ yj_isLatin1.1.cls ≠ "java/lang/invoke/VarHandle" ∧ (parseMethodDescriptor yj_isLatin1.1.desc).map (fun d => d.parameters.length) = some 0 := ⟨(gk_1 (List.mem_of_getElem? (i := 74) rfl) rfl), (gk_1 (List.mem_of_getElem? (i := 5) rfl) rfl), by decide +kernel, by decide +kernel, by decide +kernel⟩
set_option maxRecDepth 100000 in
theorem ij_isLatin1 : Cond.instanceMethod yj_isLatin1.1 ∈ gtb := (gk_1 (List.mem_of_getElem? (i := 72) rfl) rfl)
set_option maxRecDepth 100000 in
theorem vj_isLatin1 : Cond.selects yj_isLatin1.1.cls yj_isLatin1.1 yj_isLatin1.1 ∈ gtb := (gk_1 (List.mem_of_getElem? (i := 73) rfl) rfl)
def yj_length : gY := (⟨"java/lang/String", "length", "()I"⟩, prog_17_method_54_code, 1, (some .int), 1)
theorem dj_length_0 : decode prog_17_method_54_code 0 = .ok (.aload_n 0, 1) := by decide +kernel
theorem dj_length_1 : decode prog_17_method_54_code 1 = .ok (.getfield 9, 3) := by decide +kernel
theorem dj_length_4 : decode prog_17_method_54_code 4 = .ok (.arraylength, 1) := by decide +kernel
theorem dj_length_5 : decode prog_17_method_54_code 5 = .ok (.aload_n 0, 1) := by decide +kernel
theorem dj_length_6 : decode prog_17_method_54_code 6 = .ok (.invokevirtual 335, 3) := by decide +kernel
theorem dj_length_9 : decode prog_17_method_54_code 9 = .ok (.ishr, 1) := by decide +kernel
theorem dj_length_10 : decode prog_17_method_54_code 10 = .ok (.ireturn, 1) := by decide +kernel
set_option maxRecDepth 100000 in
theorem kj_length : Cond.code yj_length.1 yj_length.2.1 yj_length.2.2.1 yj_length.2.2.2.1 ∈ gtb ∧ Cond.initialized yj_length.1.cls ∈ gtb ∧ yj_length.1.cls ≠ "java/lang/invoke/MethodHandle" ∧ yj_length.1.cls ≠ "java/lang/invoke/VarHandle" ∧ (parseMethodDescriptor yj_length.1.desc).map (fun d => d.parameters.length) = some 0 := ⟨(gk_1 (List.mem_of_getElem? (i := 60) rfl) rfl), (gk_1 (List.mem_of_getElem? (i := 5) rfl) rfl), by decide +kernel, by decide +kernel, by decide +kernel⟩
set_option maxRecDepth 100000 in
theorem ij_length : Cond.instanceMethod yj_length.1 ∈ gtb := (gk_1 (List.mem_of_getElem? (i := 58) rfl) rfl)
set_option maxRecDepth 100000 in
theorem vj_length : Cond.selects yj_length.1.cls yj_length.1 yj_length.1 ∈ gtb := (gk_1 (List.mem_of_getElem? (i := 59) rfl) rfl)
def yj_pci : gY := (⟨"jdk/internal/util/Preconditions", "checkIndex", "(IILjava/util/function/BiFunction;)I"⟩, prog_20_method_11_code, 3, (some .int), 0)
theorem dj_pci_0 : decode prog_20_method_11_code 0 = .ok (.iload_n 0, 1) := by decide +kernel
theorem dj_pci_1 : decode prog_20_method_11_code 1 = .ok (.ifCond .lt 8, 3) := by decide +kernel
theorem dj_pci_4 : decode prog_20_method_11_code 4 = .ok (.iload_n 0, 1) := by decide +kernel
theorem dj_pci_5 : decode prog_20_method_11_code 5 = .ok (.iload_n 1, 1) := by decide +kernel
theorem dj_pci_6 : decode prog_20_method_11_code 6 = .ok (.if_icmp .lt 10, 3) := by decide +kernel
theorem dj_pci_9 : decode prog_20_method_11_code 9 = .ok (.aload_n 2, 1) := by decide +kernel
theorem dj_pci_10 : decode prog_20_method_11_code 10 = .ok (.iload_n 0, 1) := by decide +kernel
theorem dj_pci_11 : decode prog_20_method_11_code 11 = .ok (.iload_n 1, 1) := by decide +kernel
theorem dj_pci_12 : decode prog_20_method_11_code 12 = .ok (.invokestatic 95, 3) := by decide +kernel
theorem dj_pci_15 : decode prog_20_method_11_code 15 = .ok (.athrow, 1) := by decide +kernel
theorem dj_pci_16 : decode prog_20_method_11_code 16 = .ok (.iload_n 0, 1) := by decide +kernel
theorem dj_pci_17 : decode prog_20_method_11_code 17 = .ok (.ireturn, 1) := by decide +kernel
set_option maxRecDepth 100000 in
theorem kj_pci : Cond.code yj_pci.1 yj_pci.2.1 yj_pci.2.2.1 yj_pci.2.2.2.1 ∈ gtb ∧ Cond.initialized yj_pci.1.cls ∈ gtb ∧ yj_pci.1.cls ≠ "java/lang/invoke/MethodHandle" ∧ yj_pci.1.cls ≠ "java/lang/invoke/VarHandle" ∧ (parseMethodDescriptor yj_pci.1.desc).map (fun d => d.parameters.length) = some 3 := ⟨(gk_1 (List.mem_of_getElem? (i := 85) rfl) rfl), (gk_1 (List.mem_of_getElem? (i := 7) rfl) rfl), by decide +kernel, by decide +kernel, by decide +kernel⟩
set_option maxRecDepth 100000 in
theorem sj_pci : Cond.static yj_pci.1 ∈ gtb := (gk_1 (List.mem_of_getElem? (i := 84) rfl) rfl)
def yj_sci : gY := (⟨"java/lang/String", "checkIndex", "(II)V"⟩, prog_17_method_155_code, 2, none, 1)
theorem dj_sci_0 : decode prog_17_method_155_code 0 = .ok (.iload_n 0, 1) := by decide +kernel
theorem dj_sci_1 : decode prog_17_method_155_code 1 = .ok (.iload_n 1, 1) := by decide +kernel
theorem dj_sci_2 : decode prog_17_method_155_code 2 = .ok (.getstatic 1053, 3) := by decide +kernel
theorem dj_sci_5 : decode prog_17_method_155_code 5 = .ok (.invokestatic 1059, 3) := by decide +kernel
theorem dj_sci_8 : decode prog_17_method_155_code 8 = .ok (.pop, 1) := by decide +kernel
theorem dj_sci_9 : decode prog_17_method_155_code 9 = .ok (.return_, 1) := by decide +kernel
set_option maxRecDepth 100000 in
theorem kj_sci : Cond.code yj_sci.1 yj_sci.2.1 yj_sci.2.2.1 yj_sci.2.2.2.1 ∈ gtb ∧ Cond.initialized yj_sci.1.cls ∈ gtb ∧ yj_sci.1.cls ≠ "java/lang/invoke/MethodHandle" ∧ yj_sci.1.cls ≠ "java/lang/invoke/VarHandle" ∧ (parseMethodDescriptor yj_sci.1.desc).map (fun d => d.parameters.length) = some 2 := ⟨(gk_1 (List.mem_of_getElem? (i := 80) rfl) rfl), (gk_1 (List.mem_of_getElem? (i := 5) rfl) rfl), by decide +kernel, by decide +kernel, by decide +kernel⟩
set_option maxRecDepth 100000 in
theorem sj_sci : Cond.static yj_sci.1 ∈ gtb := (gk_1 (List.mem_of_getElem? (i := 79) rfl) rfl)
def yj_lca : gY := (⟨"java/lang/StringLatin1", "charAt", "([BI)C"⟩, prog_18_method_2_code, 2, (some .char), 2)
theorem dj_lca_0 : decode prog_18_method_2_code 0 = .ok (.iload_n 1, 1) := by decide +kernel
theorem dj_lca_1 : decode prog_18_method_2_code 1 = .ok (.aload_n 0, 1) := by decide +kernel
theorem dj_lca_2 : decode prog_18_method_2_code 2 = .ok (.arraylength, 1) := by decide +kernel
theorem dj_lca_3 : decode prog_18_method_2_code 3 = .ok (.invokestatic 9, 3) := by decide +kernel
theorem dj_lca_6 : decode prog_18_method_2_code 6 = .ok (.aload_n 0, 1) := by decide +kernel
theorem dj_lca_7 : decode prog_18_method_2_code 7 = .ok (.iload_n 1, 1) := by decide +kernel
theorem dj_lca_8 : decode prog_18_method_2_code 8 = .ok (.baload, 1) := by decide +kernel
theorem dj_lca_9 : decode prog_18_method_2_code 9 = .ok (.sipush 255, 3) := by decide +kernel
theorem dj_lca_12 : decode prog_18_method_2_code 12 = .ok (.iand, 1) := by decide +kernel
theorem dj_lca_13 : decode prog_18_method_2_code 13 = .ok (.i2c, 1) := by decide +kernel
theorem dj_lca_14 : decode prog_18_method_2_code 14 = .ok (.ireturn, 1) := by decide +kernel
set_option maxRecDepth 100000 in
theorem kj_lca : Cond.code yj_lca.1 yj_lca.2.1 yj_lca.2.2.1 yj_lca.2.2.2.1 ∈ gtb ∧ Cond.initialized yj_lca.1.cls ∈ gtb ∧ yj_lca.1.cls ≠ "java/lang/invoke/MethodHandle" ∧ yj_lca.1.cls ≠ "java/lang/invoke/VarHandle" ∧ (parseMethodDescriptor yj_lca.1.desc).map (fun d => d.parameters.length) = some 2 := ⟨(gk_1 (List.mem_of_getElem? (i := 77) rfl) rfl), (gk_1 (List.mem_of_getElem? (i := 6) rfl) rfl), by decide +kernel, by decide +kernel, by decide +kernel⟩
set_option maxRecDepth 100000 in
theorem sj_lca : Cond.static yj_lca.1 ∈ gtb := (gk_1 (List.mem_of_getElem? (i := 76) rfl) rfl)
def yj_charAt : gY := (⟨"java/lang/String", "charAt", "(I)C"⟩, prog_17_method_56_code, 2, (some .char), 3)
theorem dj_charAt_0 : decode prog_17_method_56_code 0 = .ok (.aload_n 0, 1) := by decide +kernel
theorem dj_charAt_1 : decode prog_17_method_56_code 1 = .ok (.invokevirtual 492, 3) := by decide +kernel
theorem dj_charAt_4 : decode prog_17_method_56_code 4 = .ok (.ifCond .eq 12, 3) := by decide +kernel
theorem dj_charAt_7 : decode prog_17_method_56_code 7 = .ok (.aload_n 0, 1) := by decide +kernel
theorem dj_charAt_8 : decode prog_17_method_56_code 8 = .ok (.getfield 9, 3) := by decide +kernel
theorem dj_charAt_11 : decode prog_17_method_56_code 11 = .ok (.iload_n 1, 1) := by decide +kernel
theorem dj_charAt_12 : decode prog_17_method_56_code 12 = .ok (.invokestatic 495, 3) := by decide +kernel
theorem dj_charAt_15 : decode prog_17_method_56_code 15 = .ok (.ireturn, 1) := by decide +kernel
theorem dj_charAt_16 : decode prog_17_method_56_code 16 = .ok (.aload_n 0, 1) := by decide +kernel
theorem dj_charAt_17 : decode prog_17_method_56_code 17 = .ok (.getfield 9, 3) := by decide +kernel
theorem dj_charAt_20 : decode prog_17_method_56_code 20 = .ok (.iload_n 1, 1) := by decide +kernel
theorem dj_charAt_21 : decode prog_17_method_56_code 21 = .ok (.invokestatic 498, 3) := by decide +kernel
theorem dj_charAt_24 : decode prog_17_method_56_code 24 = .ok (.ireturn, 1) := by decide +kernel
set_option maxRecDepth 100000 in
theorem kj_charAt : Cond.code yj_charAt.1 yj_charAt.2.1 yj_charAt.2.2.1 yj_charAt.2.2.2.1 ∈ gtb ∧ Cond.initialized yj_charAt.1.cls ∈ gtb ∧ yj_charAt.1.cls ≠ "java/lang/invoke/MethodHandle" ∧ yj_charAt.1.cls ≠ "java/lang/invoke/VarHandle" ∧ (parseMethodDescriptor yj_charAt.1.desc).map (fun d => d.parameters.length) = some 1 := ⟨(gk_1 (List.mem_of_getElem? (i := 70) rfl) rfl), (gk_1 (List.mem_of_getElem? (i := 5) rfl) rfl), by decide +kernel, by decide +kernel, by decide +kernel⟩
set_option maxRecDepth 100000 in
theorem ij_charAt : Cond.instanceMethod yj_charAt.1 ∈ gtb := (gk_1 (List.mem_of_getElem? (i := 68) rfl) rfl)
set_option maxRecDepth 100000 in
theorem vj_charAt : Cond.selects yj_charAt.1.cls yj_charAt.1 yj_charAt.1 ∈ gtb := (gk_1 (List.mem_of_getElem? (i := 69) rfl) rfl)
set_option maxRecDepth 100000 in
theorem lj_coder : Cond.methodLink "java/lang/String" 335 yj_coder.1 ∈ gtb := (gk_1 (List.mem_of_getElem? (i := 61) rfl) rfl)
set_option maxRecDepth 100000 in
theorem lj_isLatin1 : Cond.methodLink "java/lang/String" 492 yj_isLatin1.1 ∈ gtb := (gk_1 (List.mem_of_getElem? (i := 71) rfl) rfl)
set_option maxRecDepth 100000 in
theorem lj_lca : Cond.methodLink "java/lang/String" 495 yj_lca.1 ∈ gtb := (gk_1 (List.mem_of_getElem? (i := 75) rfl) rfl)
set_option maxRecDepth 100000 in
theorem lj_pci : Cond.methodLink "java/lang/String" 1059 yj_pci.1 ∈ gtb := (gk_1 (List.mem_of_getElem? (i := 83) rfl) rfl)
set_option maxRecDepth 100000 in
theorem lj_sci : Cond.methodLink "java/lang/StringLatin1" 9 yj_sci.1 ∈ gtb := (gk_1 (List.mem_of_getElem? (i := 78) rfl) rfl)
set_option maxRecDepth 100000 in
theorem lj_length : Cond.methodLink "CookedLaw$Tokens" 27 yj_length.1 ∈ gtb := (gk_1 (List.mem_of_getElem? (i := 57) rfl) rfl)
set_option maxRecDepth 100000 in
theorem lj_charAt : Cond.methodLink "CookedLaw$Tokens" 33 yj_charAt.1 ∈ gtb := (gk_1 (List.mem_of_getElem? (i := 67) rfl) rfl)
set_option maxRecDepth 100000 in
theorem fj_38 : Cond.fieldLink "java/lang/String" 38 "java/lang/String" "COMPACT_STRINGS" "Z" ∈ gtb := (gk_1 (List.mem_of_getElem? (i := 65) rfl) rfl)
set_option maxRecDepth 100000 in
theorem fj_1053 : Cond.fieldLink "java/lang/String" 1053 "jdk/internal/util/Preconditions" "SIOOBE_FORMATTER" "Ljava/util/function/BiFunction;" ∈ gtb := (gk_1 (List.mem_of_getElem? (i := 81) rfl) rfl)
set_option maxRecDepth 100000 in
theorem fj_9 : Cond.fieldLink "java/lang/String" 9 "java/lang/String" "value" "[B" ∈ gtb := (gk_8 (List.mem_of_getElem? (i := 80) rfl) rfl)
set_option maxRecDepth 100000 in
theorem fj_15 : Cond.fieldLink "java/lang/String" 15 "java/lang/String" "coder" "B" ∈ gtb := (gk_8 (List.mem_of_getElem? (i := 81) rfl) rfl)

def jO (b : Nat) (adK adV : Nat → Nat) (U : State) (H : Heap) : Prop := vk_S 1 [108] jsB adK adV (fun q => b ≤ q) U H ∧ va_Z "java/lang/String" "COMPACT_STRINGS" "Z" (.int 1) (fun q => b ≤ q) U H ∧ va_Zq "jdk/internal/util/Preconditions" "SIOOBE_FORMATTER" "Ljava/util/function/BiFunction;" (fun q => b ≤ q) U H
def jP (b : Nat) (adK adV : Nat → Nat) (av : List Value) : Array Value → State → Prop := fun v U => v = av.toArray ∧ jO b adK adV U U.heap
theorem jO.alike {b : Nat} {adK adV : Nat → Nat} {u U : State} {H : Heap} (hv : u.vm.Alike U.vm) (h : jO b adK adV u H) : jO b adK adV U H := ⟨h.1.moved hv, h.2.1.moved hv, h.2.2.moved hv⟩
theorem jO.kept {b : Nat} {adK adV : Nat → Nat} {U : State} {H H1 : Heap} (g : jO b adK adV U H) (hq : ∀ a : Nat, a < H.size → ¬ b ≤ a → H1[a]? = H[a]?) : jO b adK adV U H1 := ⟨g.1.kept hq, g.2.1.kept hq, g.2.2.kept hq⟩
theorem jP_blind {b : Nat} {adK adV : Nat → Nat} {av : List Value} : FrameBlind (jP b adK adV av) := fun a U g mk q => ⟨q.1, jO.alike (u := U) (U := U.calling g mk a) (Vm.Alike.refl U.vm) q.2⟩
def QcV : Array Value → State → Outcome → State → Prop := fun _ st o t => o = .returned none ∧ t.heap = st.heap
theorem W.callJV {p : Program} {l : Launch} {e : Env} {R : Room} {s : State} {m : MethodId} {args : Array Value} {below : List Frame} {meth : Method} {c : Code} {H : Heap} {locs : List Loc} {cells slots : Nat} {Q : State → Prop} {g : JFrame} {rest : List Value} {a : Array Value} (hr : CallRun p l e R s m args below meth c H locs cells slots 0 0 g rest (QcV a) (fun _ => False)) (kk : W p l e R s m args below meth c H locs cells slots Q { g with pc := g.pc + 3, stack := rest }) : W p l e R s m args below meth c H locs cells slots Q g := by
  intro T hT X
  obtain ⟨v, st₀, t, T', L, h0, X', hL, e1, ⟨hv, hh⟩, st⟩ := hr T hT X
  cases hv
  obtain ⟨t2, a1, b1⟩ := kk T' (by rw [e1, hh, h0]) (Stand.forget X' (fun q h => (hL q h).elim))
  exact ⟨t2, st t2 a1, b1⟩
section STRS
variable (l : Launch) (b : Nat) (adK adV : Nat → Nat)
theorem jm_coder : Met l yj_coder.1 (gW yj_coder) (rmd 0 0 0) (jP b adK adV [.ref (adK 0)]) (QcRead 0) 0 0 (fun _ => False) := by
  refine Met.ofW (cc := yj_coder.2.1) (maxL := 1) (ret := some .byte) (by decide) rfl ?_
  intro p e s m as below meth c s₁ B hml hv
  obtain ⟨rfl, hO⟩ := hv
  have hts := atoms_spec (ws := gW yj_coder) B.pre
  have hl := lv_entry [.ref (adK 0)] (n := 1) (Nat.le_of_ble_eq_true rfl)
  rw [lg_entry_eq]
  have hown : s.vm.findClass "java/lang/String" = some m.cls := findClass_of_methodNamed B.named
  have hS : va_S (fun q => b ≤ q) s.heap s.heap [] := va_S.rf
  refine va_gets B.exec B.bytes hO.2.1 hS hown (hts _ (List.mem_cons_of_mem _ fj_38)) (fun _ h => h) dj_coder_0 ?_
  refine lv_if_eq (tgt := 13) B.exec B.bytes dj_coder_3 (by decide) (fun h => absurd h (by decide)) (fun h => ?_)
  refine lv_aload_n B.exec B.bytes dj_coder_6 rfl (lv_at hl 0 rfl) ?_
  refine vk_getf B.exec B.bytes (hO.1.1 0 (by decide)).2.1 hS hown (hts _ (List.mem_cons_of_mem _ fj_15)) (fun _ h => h) dj_coder_7 ?_
  refine lv_goto (tgt := 14) B.exec B.bytes dj_coder_10 (by decide) ?_
  exact W.zret (ty := .byte) B.exec B.bytes B.returns rfl (fun t ht hW => ⟨rfl, ht⟩) (fun q hq => by cases hq) dj_coder_14 (hlocks := B.notSynchronized)
theorem jm_isLatin1 : Met l yj_isLatin1.1 (gW yj_isLatin1) (rmd 0 0 0) (jP b adK adV [.ref (adK 0)]) (QcRead 1) 0 0 (fun _ => False) := by
  refine Met.ofW (cc := yj_isLatin1.2.1) (maxL := 1) (ret := some .boolean) (by decide) rfl ?_
  intro p e s m as below meth c s₁ B hml hv
  obtain ⟨rfl, hO⟩ := hv
  have hts := atoms_spec (ws := gW yj_isLatin1) B.pre
  have hl := lv_entry [.ref (adK 0)] (n := 1) (Nat.le_of_ble_eq_true rfl)
  rw [lg_entry_eq]
  have hown : s.vm.findClass "java/lang/String" = some m.cls := findClass_of_methodNamed B.named
  have hS : va_S (fun q => b ≤ q) s.heap s.heap [] := va_S.rf
  refine va_gets B.exec B.bytes hO.2.1 hS hown (hts _ (List.mem_cons_of_mem _ fj_38)) (fun _ h => h) dj_isLatin1_0 ?_
  refine lv_if_eq (tgt := 17) B.exec B.bytes dj_isLatin1_3 (by decide) (fun h => absurd h (by decide)) (fun h => ?_)
  refine lv_aload_n B.exec B.bytes dj_isLatin1_6 rfl (lv_at hl 0 rfl) ?_
  refine vk_getf B.exec B.bytes (hO.1.1 0 (by decide)).2.1 hS hown (hts _ (List.mem_cons_of_mem _ fj_15)) (fun _ h => h) dj_isLatin1_7 ?_
  refine lv_if_ne (tgt := 17) B.exec B.bytes dj_isLatin1_10 (by decide) (fun h => absurd rfl h) (fun h => ?_)
  refine lv_iconst (v := 1) B.exec B.bytes dj_isLatin1_13 (by decide) ?_
  refine lv_goto (tgt := 18) B.exec B.bytes dj_isLatin1_14 (by decide) ?_
  exact W.zret (ty := .boolean) B.exec B.bytes B.returns rfl (fun t ht hW => ⟨rfl, ht⟩) (fun q hq => by cases hq) dj_isLatin1_18 (hlocks := B.notSynchronized)
theorem jm_length : Met l yj_length.1 (gW yj_length) (rmd 1 0 0) (jP b adK adV [.ref (adK 0)]) (QcRead 108) 0 0 (fun _ => False) := by
  refine Met.ofW (cc := yj_length.2.1) (maxL := 1) (ret := some .int) (by decide) rfl ?_
  intro p e s m as below meth c s₁ B hml hv
  obtain ⟨rfl, hO⟩ := hv
  have hts := atoms_spec (ws := gW yj_length) B.pre
  have hl := lv_entry [.ref (adK 0)] (n := 1) (Nat.le_of_ble_eq_true rfl)
  rw [lg_entry_eq]
  have hown : s.vm.findClass "java/lang/String" = some m.cls := findClass_of_methodNamed B.named
  have hS : va_S (fun q => b ≤ q) s.heap s.heap [] := va_S.rf
  refine lv_aload_n B.exec B.bytes dj_length_0 rfl (lv_at hl 0 rfl) ?_
  refine vk_getf B.exec B.bytes (hO.1.1 0 (by decide)).2.2.1 hS hown (hts _ (List.mem_cons_of_mem _ fj_9)) (fun _ h => h) dj_length_1 ?_
  refine va_tlen (v := 108) B.exec B.bytes (hO.1.1 0 (by decide)).2.2.2 hS (by decide) dj_length_4 ?_
  refine lv_aload_n B.exec B.bytes dj_length_5 rfl (lv_at hl 0 rfl) ?_
  refine W.callR (W.runV (C := "java/lang/String") (Ts := gW yj_length) (As := []) (rest := [.int 108]) ⟨B.exec, B.bytes, hml, hown, hts⟩ (jm_coder l b adK adV) ⟨callB_of 0 hts (gw_good kj_coder.1) rfl rfl rfl (hts _ (List.mem_cons_of_mem _ kj_coder.2.1)) (hts _ (List.mem_cons_of_mem _ lj_coder)) kj_coder.2.2 ⟨Nat.le_of_ble_eq_true rfl, Nat.le_of_ble_eq_true rfl⟩, hts _ (List.mem_cons_of_mem _ ij_coder), hts _ (List.mem_cons_of_mem _ vj_coder)⟩
    ⟨jP_blind, vk_recv hO.1 (by decide) hS, fun U hU hW => ⟨rfl, by rw [hU]; exact jO.alike hW.alike hO⟩⟩ rfl rfl hl.1 rfl (Nat.le_of_ble_eq_true rfl) dj_length_6 ⟨Nat.le_refl 0, Nat.le_refl 0⟩) ?_
  refine lv_ishr B.exec B.bytes dj_length_9 ?_
  exact W.iret B.exec B.bytes B.returns (fun t ht hW => ⟨by rfl, ht⟩) (fun q hq => by cases hq) dj_length_10 (hlocks := B.notSynchronized)
theorem jm_pci (i n : Int32) (f : Value) (hf : f = .null ∨ ∃ t, f = .ref t) (h0 : ¬ i < 0) (h1 : i < n) : Met l yj_pci.1 (gW yj_pci) (rmd 0 0 0) (jP b adK adV [.int i, .int n, f]) (QcRead i) 0 0 (fun _ => False) := by
  refine Met.ofW (cc := yj_pci.2.1) (maxL := 3) (ret := some .int) (by decide) rfl ?_
  intro p e s m as below meth c s₁ B hml hv
  obtain ⟨rfl, hO⟩ := hv
  have hl := lv_entry [.int i, .int n, f] (n := 3) (by rcases hf with rfl | ⟨t, rfl⟩ <;> exact Nat.le_of_ble_eq_true rfl)
  rw [lg_entry_eq]
  have hl : lv_has _ 3 [(0, .int i), (1, .int n), (2, f)] := hl
  refine lv_iload_n B.exec B.bytes dj_pci_0 rfl (lv_at hl 0 rfl) ?_
  refine lv_if_lt (tgt := 9) B.exec B.bytes dj_pci_1 (by decide) (fun h => absurd h h0) (fun h => ?_)
  refine lv_iload_n B.exec B.bytes dj_pci_4 rfl (lv_at hl 0 rfl) ?_
  refine lv_iload_n B.exec B.bytes dj_pci_5 rfl (lv_at hl 1 rfl) ?_
  refine lv_icmp_lt (tgt := 16) B.exec B.bytes dj_pci_6 (by decide) (fun h => ?_) (fun h => absurd h1 h)
  refine lv_iload_n B.exec B.bytes dj_pci_16 rfl (lv_at hl 0 rfl) ?_
  exact W.iret B.exec B.bytes B.returns (fun t ht hW => ⟨rfl, ht⟩) (fun q hq => by cases hq) dj_pci_17 (hlocks := B.notSynchronized)
theorem jm_sci (i n : Int32) (h0 : ¬ i < 0) (h1 : i < n) : Met l yj_sci.1 (gW yj_sci) (rmd 1 0 0) (jP b adK adV [.int i, .int n]) QcV 0 0 (fun _ => False) := by
  refine Met.ofW (cc := yj_sci.2.1) (maxL := 2) (ret := none) (by decide) rfl ?_
  intro p e s m as below meth c s₁ B hml hv
  obtain ⟨rfl, hO⟩ := hv
  have hts := atoms_spec (ws := gW yj_sci) B.pre
  have hl := lv_entry [.int i, .int n] (n := 2) (Nat.le_of_ble_eq_true rfl)
  rw [lg_entry_eq]
  have hl : lv_has _ 2 [(0, .int i), (1, .int n)] := hl
  have hown : s.vm.findClass "java/lang/String" = some m.cls := findClass_of_methodNamed B.named
  have hS : va_S (fun q => b ≤ q) s.heap s.heap [] := va_S.rf
  obtain ⟨f, hf, hz⟩ : ∃ f : Value, (f = .null ∨ ∃ t, f = .ref t) ∧ va_Z "jdk/internal/util/Preconditions" "SIOOBE_FORMATTER" "Ljava/util/function/BiFunction;" f (fun q => b ≤ q) s s.heap := by
    rcases hO.2.2 with h | ⟨t, h⟩
    · exact ⟨_, Or.inl rfl, h⟩
    · exact ⟨_, Or.inr ⟨t, rfl⟩, h⟩
  refine lv_iload_n B.exec B.bytes dj_sci_0 rfl (lv_at hl 0 rfl) ?_
  refine lv_iload_n B.exec B.bytes dj_sci_1 rfl (lv_at hl 1 rfl) ?_
  refine va_gets B.exec B.bytes hz hS hown (hts _ (List.mem_cons_of_mem _ fj_1053)) (fun _ h => h) dj_sci_2 ?_
  refine W.callR (r := i) (W.runS (Ts := gW yj_sci) (As := [.int i, .int n, f]) (rest := []) ⟨B.exec, B.bytes, hml, hown, hts⟩ (jm_pci l b adK adV i n f hf h0 h1) ⟨callB_of 3 hts (gw_good kj_pci.1) rfl rfl rfl (hts _ (List.mem_cons_of_mem _ kj_pci.2.1)) (hts _ (List.mem_cons_of_mem _ lj_pci)) kj_pci.2.2 ⟨Nat.le_of_ble_eq_true rfl, Nat.le_of_ble_eq_true rfl⟩, hts _ (List.mem_cons_of_mem _ sj_pci)⟩
    ⟨jP_blind, fun U hU hW => ⟨rfl, by rw [hU]; exact jO.alike hW.alike hO⟩⟩ rfl rfl hl.1 rfl (Nat.le_of_ble_eq_true rfl) dj_sci_5 ⟨Nat.le_refl 0, Nat.le_refl 0⟩) ?_
  refine lv_pop B.exec B.bytes dj_sci_8 rfl ?_
  exact W.vret B.exec B.bytes B.returns (fun t ht hW => ⟨rfl, ht⟩) (fun q hq => by cases hq) dj_sci_9 (hlocks := B.notSynchronized)
def jch (k : Nat) : Int32 := ((((jsB.getD 0 []).getD k 0) &&& 255).toUInt32 % 65536).toInt32
theorem jch_nar : ∀ k, k < 108 → narrow .char (.int (jch k)) = .int (jch k) := by decide +kernel
theorem jm_lca (i : Int32) (h0 : ¬ i < 0) (h1 : i < 108) : Met l yj_lca.1 (gW yj_lca) (rmd 2 0 0) (jP b adK adV [.ref (adV 0), .int i]) (QcRead (jch i.toNatClampNeg)) 0 0 (fun _ => False) := by
  refine Met.ofW (cc := yj_lca.2.1) (maxL := 2) (ret := some .char) (by decide) rfl ?_
  intro p e s m as below meth c s₁ B hml hv
  obtain ⟨rfl, hO⟩ := hv
  have hts := atoms_spec (ws := gW yj_lca) B.pre
  have hl := lv_entry [.ref (adV 0), .int i] (n := 2) (Nat.le_of_ble_eq_true rfl)
  rw [lg_entry_eq]
  have hl : lv_has _ 2 [(0, .ref (adV 0)), (1, .int i)] := hl
  have hown : s.vm.findClass "java/lang/StringLatin1" = some m.cls := findClass_of_methodNamed B.named
  have hS : va_S (fun q => b ≤ q) s.heap s.heap [] := va_S.rf
  have hin : vp_in i 108 := vin_c h0 (by have := i_lt.mp h1; have e : (108 : Int32).toInt = 108 := by decide
                                         omega)
  have hk : i.toNatClampNeg < 108 := Nat.not_le.mp fun q => hin (Or.inr q)
  refine lv_iload_n B.exec B.bytes dj_lca_0 rfl (lv_at hl 1 rfl) ?_
  refine lv_aload_n B.exec B.bytes dj_lca_1 rfl (lv_at hl 0 rfl) ?_
  refine va_tlen (v := 108) B.exec B.bytes (hO.1.1 0 (by decide)).2.2.2 hS (by decide) dj_lca_2 ?_
  refine W.callJV (W.runS (Ts := gW yj_lca) (As := [.int i, .int 108]) (rest := []) ⟨B.exec, B.bytes, hml, hown, hts⟩ (jm_sci l b adK adV i 108 h0 h1) ⟨callB_of 2 hts (gw_good kj_sci.1) rfl rfl rfl (hts _ (List.mem_cons_of_mem _ kj_sci.2.1)) (hts _ (List.mem_cons_of_mem _ lj_sci)) kj_sci.2.2 ⟨Nat.le_of_ble_eq_true rfl, Nat.le_of_ble_eq_true rfl⟩, hts _ (List.mem_cons_of_mem _ sj_sci)⟩
    ⟨jP_blind, fun U hU hW => ⟨rfl, by rw [hU]; exact jO.alike hW.alike hO⟩⟩ rfl rfl hl.1 rfl (Nat.le_of_ble_eq_true rfl) dj_lca_3 ⟨Nat.le_refl 0, Nat.le_refl 0⟩) ?_
  refine lv_aload_n B.exec B.bytes dj_lca_6 rfl (lv_at hl 0 rfl) ?_
  refine lv_iload_n B.exec B.bytes dj_lca_7 rfl (lv_at hl 1 rfl) ?_
  refine va_tb B.exec B.bytes (hO.1.1 0 (by decide)).2.2.2 hS hin rfl dj_lca_8 ?_
  refine lv_sipush (v := 255) B.exec B.bytes dj_lca_9 (by decide) ?_
  refine lv_iand B.exec B.bytes dj_lca_12 ?_
  refine lv_i2c (v := jch i.toNatClampNeg) B.exec B.bytes dj_lca_13 rfl ?_
  exact W.zret (ty := .char) B.exec B.bytes B.returns (jch_nar _ hk) (fun t ht hW => ⟨rfl, ht⟩) (fun q hq => by cases hq) dj_lca_14 (hlocks := B.notSynchronized)
theorem jm_charAt (i : Int32) (h0 : ¬ i < 0) (h1 : i < 108) : Met l yj_charAt.1 (gW yj_charAt) (rmd 3 0 0) (jP b adK adV [.ref (adK 0), .int i]) (QcRead (jch i.toNatClampNeg)) 0 0 (fun _ => False) := by
  refine Met.ofW (cc := yj_charAt.2.1) (maxL := 2) (ret := some .char) (by decide) rfl ?_
  intro p e s m as below meth c s₁ B hml hv
  obtain ⟨rfl, hO⟩ := hv
  have hts := atoms_spec (ws := gW yj_charAt) B.pre
  have hl := lv_entry [.ref (adK 0), .int i] (n := 2) (Nat.le_of_ble_eq_true rfl)
  rw [lg_entry_eq]
  have hl : lv_has _ 2 [(0, .ref (adK 0)), (1, .int i)] := hl
  have hown : s.vm.findClass "java/lang/String" = some m.cls := findClass_of_methodNamed B.named
  have hS : va_S (fun q => b ≤ q) s.heap s.heap [] := va_S.rf
  have hin : vp_in i 108 := vin_c h0 (by have := i_lt.mp h1; have e : (108 : Int32).toInt = 108 := by decide
                                         omega)
  have hk : i.toNatClampNeg < 108 := Nat.not_le.mp fun q => hin (Or.inr q)
  refine lv_aload_n B.exec B.bytes dj_charAt_0 rfl (lv_at hl 0 rfl) ?_
  refine W.callR (r := 1) (W.runV (C := "java/lang/String") (Ts := gW yj_charAt) (As := []) (rest := []) ⟨B.exec, B.bytes, hml, hown, hts⟩ (jm_isLatin1 l b adK adV) ⟨callB_of 0 hts (gw_good kj_isLatin1.1) rfl rfl rfl (hts _ (List.mem_cons_of_mem _ kj_isLatin1.2.1)) (hts _ (List.mem_cons_of_mem _ lj_isLatin1)) kj_isLatin1.2.2 ⟨Nat.le_of_ble_eq_true rfl, Nat.le_of_ble_eq_true rfl⟩, hts _ (List.mem_cons_of_mem _ ij_isLatin1), hts _ (List.mem_cons_of_mem _ vj_isLatin1)⟩
    ⟨jP_blind, vk_recv hO.1 (by decide) hS, fun U hU hW => ⟨rfl, by rw [hU]; exact jO.alike hW.alike hO⟩⟩ rfl rfl hl.1 rfl (Nat.le_of_ble_eq_true rfl) dj_charAt_1 ⟨Nat.le_refl 0, Nat.le_refl 0⟩) ?_
  refine lv_if_eq (tgt := 16) B.exec B.bytes dj_charAt_4 rfl (fun h => absurd h (by decide)) (fun h => ?_)
  refine lv_aload_n B.exec B.bytes dj_charAt_7 rfl (lv_at hl 0 rfl) ?_
  refine vk_getf B.exec B.bytes (hO.1.1 0 (by decide)).2.2.1 hS hown (hts _ (List.mem_cons_of_mem _ fj_9)) (fun _ h => h) dj_charAt_8 ?_
  refine lv_iload_n B.exec B.bytes dj_charAt_11 rfl (lv_at hl 1 rfl) ?_
  refine W.callR (r := jch i.toNatClampNeg) (W.runS (Ts := gW yj_charAt) (As := [.ref (adV 0), .int i]) (rest := []) ⟨B.exec, B.bytes, hml, hown, hts⟩ (jm_lca l b adK adV i h0 h1) ⟨callB_of 2 hts (gw_good kj_lca.1) rfl rfl rfl (hts _ (List.mem_cons_of_mem _ kj_lca.2.1)) (hts _ (List.mem_cons_of_mem _ lj_lca)) kj_lca.2.2 ⟨Nat.le_of_ble_eq_true rfl, Nat.le_of_ble_eq_true rfl⟩, hts _ (List.mem_cons_of_mem _ sj_lca)⟩
    ⟨jP_blind, fun U hU hW => ⟨rfl, by rw [hU]; exact jO.alike hW.alike hO⟩⟩ rfl rfl hl.1 rfl (Nat.le_of_ble_eq_true rfl) dj_charAt_12 ⟨Nat.le_refl 0, Nat.le_refl 0⟩) ?_
  exact W.zret (ty := .char) B.exec B.bytes B.returns (jch_nar _ hk) (fun t ht hW => ⟨rfl, ht⟩) (fun q hq => by cases hq) dj_charAt_15 (hlocks := B.notSynchronized)
end STRS
section RULES6
variable {l : Launch} {E : Nat × Nat × Nat} {n k z pc pc1 : Nat} {lv lv' : List (Nat × Value)} {st : List Value} {M : gM} {L : gL} {R : gR} {Q : Option Value → gM → gL → gR → Prop}
theorem g_strlen {Y : gY} (hY : Y = y_Tokens_init) (hd1 : decode Y.2.1 pc = .ok (.ldc 25, 2)) (hd2 : decode Y.2.1 (pc + 2) = .ok (.invokevirtual 27, 3)) (hp : pc + 5 = pc1) (hcat : (st.map fun v => v.category).sum ≤ 8) (hE : k ≤ E.1 ∧ z ≤ E.2.1) (kk : Wp l Y E n k z pc1 lv (.int 108 :: st) M L R Q) : Wp l Y E n k z pc lv st M L R Q := by
  subst hp
  intro b D cA p e s m args below meth c H locs ls CX hz hP hS hl
  have kk := kk b D cA p e s m args below meth c H locs ls CX hz hP hS hl
  obtain ⟨hx, hb, hr, hlk, hml, hown, hnm, hts, hK, hbs, adK, adV, g1, g2, g3, g4⟩ := CX
  have hown' : s.vm.findClass "CookedLaw$Tokens" = some m.cls := by rw [hY] at hown; exact hown
  refine va_ldcS hx hb hown' g2 hd1 ?_
  refine W.callR (r := 108) (W.runV (C := "java/lang/String") (Ts := gW Y) (As := []) (rest := st.map (cv b)) ⟨hx, hb, hml, hown', hts⟩ (jm_length l b adK adV) ⟨callB_of 0 hts (gw_good kj_length.1) rfl rfl rfl (hts _ (List.mem_cons_of_mem _ kj_length.2.1)) (hts _ (List.mem_cons_of_mem _ lj_length)) kj_length.2.2 (by rw [hY]; exact ⟨Nat.le_of_ble_eq_true rfl, Nat.le_of_ble_eq_true rfl⟩), hts _ (List.mem_cons_of_mem _ ij_length), hts _ (List.mem_cons_of_mem _ vj_length)⟩
    ⟨jP_blind, vk_recv g1 (by decide) hS, fun U hU hW => ⟨rfl, by rw [hU]; exact (jO.alike hW.alike ⟨g1, g3, g4⟩).kept hS.2.1⟩⟩ rfl rfl hl.1 rfl ?_ hd2 hE) kk
  rw [cats_cv]
  show 2 * 0 + _ ≤ 8
  omega
theorem g_strchr {Y : gY} {x v : Int32} (hY : Y = y_Tokens_init) (hd1 : decode Y.2.1 pc = .ok (.ldc 25, 2)) (hd2 : decode Y.2.1 (pc + 2) = .ok (.iload_n 2, 1)) (hd3 : decode Y.2.1 (pc + 3) = .ok (.invokevirtual 33, 3)) (hp : pc + 6 = pc1) (j : Nat) (hv : lv[j]? = some (2, .int x)) (h0 : ¬ x < 0) (h1 : x < 108) (hch : jch x.toNatClampNeg = v) (hcat : (st.map fun v => v.category).sum ≤ 8) (hE : k ≤ E.1 ∧ z ≤ E.2.1) (kk : Wp l Y E n k z pc1 lv (.int v :: st) M L R Q) : Wp l Y E n k z pc lv st M L R Q := by
  subst hp
  intro b D cA p e s m args below meth c H locs ls CX hz hP hS hl
  have kk := kk b D cA p e s m args below meth c H locs ls CX hz hP hS hl
  obtain ⟨hx, hb, hr, hlk, hml, hown, hnm, hts, hK, hbs, adK, adV, g1, g2, g3, g4⟩ := CX
  have hown' : s.vm.findClass "CookedLaw$Tokens" = some m.cls := by rw [hY] at hown; exact hown
  refine va_ldcS hx hb hown' g2 hd1 ?_
  refine lv_iload_n hx hb hd2 rfl (lv_cvat hl hv) ?_
  subst hch
  refine W.callR (r := jch x.toNatClampNeg) (W.runV (C := "java/lang/String") (Ts := gW Y) (As := [.int x]) (rest := st.map (cv b)) ⟨hx, hb, hml, hown', hts⟩ (jm_charAt l b adK adV x h0 h1) ⟨callB_of 1 hts (gw_good kj_charAt.1) rfl rfl rfl (hts _ (List.mem_cons_of_mem _ kj_charAt.2.1)) (hts _ (List.mem_cons_of_mem _ lj_charAt)) kj_charAt.2.2 (by rw [hY]; exact ⟨Nat.le_of_ble_eq_true rfl, Nat.le_of_ble_eq_true rfl⟩), hts _ (List.mem_cons_of_mem _ ij_charAt), hts _ (List.mem_cons_of_mem _ vj_charAt)⟩
    ⟨jP_blind, vk_recv g1 (by decide) hS, fun U hU hW => ⟨rfl, by rw [hU]; exact (jO.alike hW.alike ⟨g1, g3, g4⟩).kept hS.2.1⟩⟩ rfl rfl hl.1 rfl ?_ hd3 hE) kk
  rw [cats_cv]
  show 2 * 0 + _ ≤ 8
  omega
end RULES6
end MG2x1
section MG2x2
def Fz (n : Nat) (M : gM) (L : gL) (R : gR) : Prop := ∀ c, n ≤ c → ∀ i, M c i = 0 ∧ L c i = 0 ∧ R c i = none
theorem Fz.up {n : Nat} {M : gM} {L : gL} {R : gR} (h : Fz n M L R) : Fz (n + 1) M L R := fun c hc => h c (by omega)
theorem Fz.wM {n a i : Nat} {x : Int32} {M M' : gM} {L : gL} {R : gR} (h : Fz n M L R) (ha : a < n) (e : M' = uM M a i x) : Fz n M' L R := fun c hc j => by
  have h1 := h c hc j
  rw [e, uM_at, if_neg (fun q => by omega)]
  exact h1
theorem Fz.wL {n a i : Nat} {x : Int64} {M : gM} {L L' : gL} {R : gR} (h : Fz n M L R) (ha : a < n) (e : L' = uL L a i x) : Fz n M L' R := fun c hc j => by
  have h1 := h c hc j
  rw [e, uL_at, if_neg (fun q => by omega)]
  exact h1
theorem Fz.wR {n a i : Nat} {x : Option Nat} {M : gM} {L : gL} {R R' : gR} (h : Fz n M L R) (ha : a < n) (e : R' = uR R a i x) : Fz n M L R' := fun c hc j => by
  have h1 := h c hc j
  rw [e, uR_at, if_neg (fun q => by omega)]
  exact h1
theorem rdR_ne {R' R : gR} {a i c j : Nat} {x : Option Nat} (e : R' = uR R a i x) (h : ¬ (c = a ∧ j = i)) : R' c j = R c j := by rw [e, uR_at, if_neg h]
theorem rdR_eq {R' R : gR} {a i : Nat} {x : Option Nat} (e : R' = uR R a i x) : R' a i = x := by rw [e, uR_at, if_pos ⟨rfl, rfl⟩]
theorem rdL_ne {L' L : gL} {a i c j : Nat} {x : Int64} (e : L' = uL L a i x) (h : ¬ (c = a ∧ j = i)) : L' c j = L c j := by rw [e, uL_at, if_neg h]
theorem rdL_eq {L' L : gL} {a i : Nat} {x : Int64} (e : L' = uL L a i x) : L' a i = x := by rw [e, uL_at, if_pos ⟨rfl, rfl⟩]
section RULES7
variable {l : Launch} {Y : gY} {E : Nat × Nat × Nat} {n k z pc pc1 : Nat} {lv lv' : List (Nat × Value)} {st : List Value} {M : gM} {L : gL} {R : gR} {Q : Option Value → gM → gL → gR → Prop}
theorem Wp.topR (kk : ∀ R' : gR, R' = R → Wp l Y E n k z pc lv st M L R' Q) : Wp l Y E n k z pc lv st M L R Q := kk R rfl
theorem Wp.vall {x y : Int64} (h : x = y) (kk : Wp l Y E n k z pc lv (.long y :: st) M L R Q) : Wp l Y E n k z pc lv (.long x :: st) M L R Q := by rw [h]; exact kk
end RULES7
def kM_Tape_init (M : gM) : gM := M
def kL_Tape_init (L : gL) : gL := L
def kR_Tape_init (R : gR) : gR := (uR R 1 0 (some 2))
set_option maxHeartbeats 4000000 in
set_option maxRecDepth 20000 in
theorem t0_Tape_init {l : Launch} {M : gM} {L : gL} {R : gR} {Q : Option Value → gM → gL → gR → Prop} (hF : Fz 2 M L R) (hQ : ∀ (M' : gM) (L' : gL) (R' : gR), M' = kM_Tape_init M → L' = kL_Tape_init L → R' = kR_Tape_init R → Fz 3 M' L' R' → Q none M' L' R') : Tm l y_Tape_init (1, 2000, 3) 2 [.ref 1] M L R Q := by
  refine Tm.of (by decide) (Nat.le_of_ble_eq_true rfl) ?_
  show Wp l y_Tape_init (1, 2000, 3) 2 0 0 0 [(0, .ref 1)] [] M L R Q
  refine g_aload_n (pc1 := 1) d_Tape_init_0 rfl 0 rfl ?_
  refine g_objInit (pc1 := 4) d_Tape_init_1 rfl ml_Tape_3 mi_objectInit mc_objectInit (by decide) (Nat.le_of_ble_eq_true rfl) ?_
  refine g_aload_n (pc1 := 5) d_Tape_init_4 rfl 0 rfl ?_
  refine g_sipush (pc1 := 8) (v := 2000) d_Tape_init_5 rfl (by decide) ?_
  refine g_newI (pc1 := 10) d_Tape_init_8 rfl ca_int sh_2 (fun i => (hF _ (Nat.le_refl _) i).1) (by decide) (by decide) (by decide) (Nat.le_of_ble_eq_true rfl) (Nat.le_of_ble_eq_true rfl) ?_
  refine g_putF (pc1 := 13) (v := .ref 2) (M' := M) (R' := uR R 1 0 (some 2)) d_Tape_init_10 rfl rfl ff_Tape_9 (fun _ => po_1_0 _) sh_1 (by decide) (fun _ => fvl_R_self) (fun _ q h => fvl_R_ne q h) (fun _ _ _ h => ent_neR h) ?_
  refine Wp.topR (fun R1 eR1 => ?_)
  refine g_return rfl d_Tape_init_13 rfl ?_
  exact hQ _ _ _ (by subst_vars; rfl) (by subst_vars; rfl) (by subst_vars; rfl) (Fz.wR (Fz.up hF) (by decide) eR1)
def kM_Law_init (Wl : Nat) (M : gM) : gM := M
def kL_Law_init (Wl : Nat) (L : gL) : gL := L
def kR_Law_init (Wl : Nat) (R : gR) : gR := (uR (uR (uR R Wl 0 (some (Wl + 1))) Wl 2 (some (Wl + 2))) Wl 3 (some (Wl + 3)))
set_option maxHeartbeats 4000000 in
set_option maxRecDepth 20000 in
theorem t0_Law_init {l : Launch} {M : gM} {L : gL} {R : gR} {Q : Option Value → gM → gL → gR → Prop} (Wl : Nat) (hWl : isLw Wl) (hF : Fz (Wl + 1) M L R) (hQ : ∀ (M' : gM) (L' : gL) (R' : gR), M' = kM_Law_init Wl M → L' = kL_Law_init Wl L → R' = kR_Law_init Wl R → Fz (Wl + 4) M' L' R' → Q none M' L' R') : Tm l y_Law_init (3, 441, (Wl + 4)) (Wl + 1) [.ref Wl] M L R Q := by
  refine Tm.of (by decide) (Nat.le_of_ble_eq_true rfl) ?_
  show Wp l y_Law_init (3, 441, (Wl + 4)) (Wl + 1) 0 0 0 [(0, .ref Wl)] [] M L R Q
  refine g_aload_n (pc1 := 1) d_Law_init_0 rfl 0 rfl ?_
  refine g_objInit (pc1 := 4) d_Law_init_1 rfl ml_Law_5 mi_objectInit mc_objectInit (by decide) (Nat.le_of_ble_eq_true rfl) ?_
  refine g_aload_n (pc1 := 5) d_Law_init_4 rfl 0 rfl ?_
  refine g_sipush (pc1 := 8) (v := 400) d_Law_init_5 rfl (by decide) ?_
  refine g_newI (pc1 := 10) d_Law_init_8 rfl ca_int (shLw_1 hWl) (fun i => (hF _ (Nat.le_refl _) i).1) (by decide) (by decide) (by decide) (Nat.le_of_ble_eq_true rfl) (Nat.le_of_ble_eq_true rfl) ?_
  refine g_putF (pc1 := 13) (v := .ref (Wl + 1)) (M' := M) (R' := uR R Wl 0 (some (Wl + 1))) d_Law_init_10 rfl rfl ff_Law_11 (fun _ => po_5_0 _) (shLw_0 hWl) (by omega) (fun _ => fvl_R_self) (fun _ q h => fvl_R_ne q h) (fun _ _ _ h => ent_neR h) ?_
  refine Wp.topR (fun R2 eR2 => ?_)
  refine g_aload_n (pc1 := 14) d_Law_init_13 rfl 0 rfl ?_
  refine g_bipush (pc1 := 16) (v := 9) d_Law_init_14 rfl (by decide) ?_
  refine g_newI (pc1 := 18) d_Law_init_16 rfl ca_int (shLw_2 hWl) (fun i => ((Fz.wR (Fz.up hF) (by omega) eR2) _ (Nat.le_refl _) i).1) (by decide) (by decide) (by decide) (Nat.le_of_ble_eq_true rfl) (Nat.le_of_ble_eq_true rfl) ?_
  refine g_putF (pc1 := 21) (v := .ref (Wl + 2)) (M' := M) (R' := uR R2 Wl 2 (some (Wl + 2))) d_Law_init_18 rfl rfl ff_Law_15 (fun _ => po_5_2 _) (shLw_0 hWl) (by omega) (fun _ => fvl_R_self) (fun _ q h => fvl_R_ne q h) (fun _ _ _ h => ent_neR h) ?_
  refine Wp.topR (fun R3 eR3 => ?_)
  refine g_aload_n (pc1 := 22) d_Law_init_21 rfl 0 rfl ?_
  refine g_bipush (pc1 := 24) (v := 32) d_Law_init_22 rfl (by decide) ?_
  refine g_newI (pc1 := 26) d_Law_init_24 rfl ca_int (shLw_3 hWl) (fun i => ((Fz.wR (Fz.up (Fz.wR (Fz.up hF) (by omega) eR2)) (by omega) eR3) _ (Nat.le_refl _) i).1) (by decide) (by decide) (by decide) (Nat.le_of_ble_eq_true rfl) (Nat.le_of_ble_eq_true rfl) ?_
  refine g_putF (pc1 := 29) (v := .ref (Wl + 3)) (M' := M) (R' := uR R3 Wl 3 (some (Wl + 3))) d_Law_init_26 rfl rfl ff_Law_18 (fun _ => po_5_3 _) (shLw_0 hWl) (by omega) (fun _ => fvl_R_self) (fun _ q h => fvl_R_ne q h) (fun _ _ _ h => ent_neR h) ?_
  refine Wp.topR (fun R4 eR4 => ?_)
  refine g_return rfl d_Law_init_29 rfl ?_
  exact hQ _ _ _ (by subst_vars; rfl) (by subst_vars; rfl) (by subst_vars; rfl) (Fz.wR (Fz.up (Fz.wR (Fz.up (Fz.wR (Fz.up hF) (by omega) eR2)) (by omega) eR3)) (by omega) eR4)
def kM_State_init (X : Nat) (M : gM) : gM := (uM M X 3 (-2))
def kL_State_init (X : Nat) (L : gL) : gL := L
def kR_State_init (X : Nat) (R : gR) : gR := (uR (uR (uR (uR (uR (uR R X 4 (some (X + 1))) X 5 (some (X + 2))) X 6 (some (X + 3))) X 7 (some (X + 4))) X 8 (some (X + 5))) X 9 (some (X + 6)))
set_option maxHeartbeats 4000000 in
set_option maxRecDepth 20000 in
theorem t0_State_init {l : Launch} {M : gM} {L : gL} {R : gR} {Q : Option Value → gM → gL → gR → Prop} (X : Nat) (hX : isSt X) (hF : Fz (X + 1) M L R) (hQ : ∀ (M' : gM) (L' : gL) (R' : gR), M' = kM_State_init X M → L' = kL_State_init X L → R' = kR_State_init X R → Fz (X + 7) M' L' R' → Q none M' L' R') : Tm l y_State_init (6, 34, (X + 7)) (X + 1) [.ref X] M L R Q := by
  refine Tm.of (by decide) (Nat.le_of_ble_eq_true rfl) ?_
  show Wp l y_State_init (6, 34, (X + 7)) (X + 1) 0 0 0 [(0, .ref X)] [] M L R Q
  refine g_aload_n (pc1 := 1) d_State_init_0 rfl 0 rfl ?_
  refine g_objInit (pc1 := 4) d_State_init_1 rfl ml_State_3 mi_objectInit mc_objectInit (by decide) (Nat.le_of_ble_eq_true rfl) ?_
  refine g_aload_n (pc1 := 5) d_State_init_4 rfl 0 rfl ?_
  refine g_bipush (pc1 := 7) (v := (-2)) d_State_init_5 rfl (by decide) ?_
  refine g_puti (pc1 := 10) d_State_init_7 rfl fo_State_9 (po_6_3 _) (shSt_0 hX) (by omega) ?_
  refine Wp.topM (fun M5 eM5 => ?_)
  refine g_aload_n (pc1 := 11) d_State_init_10 rfl 0 rfl ?_
  refine g_iconst (pc1 := 12) (v := 3) d_State_init_11 rfl (by decide) ?_
  refine g_newI (pc1 := 14) d_State_init_12 rfl ca_int (shSt_1 hX) (fun i => ((Fz.wM hF (by omega) eM5) _ (Nat.le_refl _) i).1) (by decide) (by decide) (by decide) (Nat.le_of_ble_eq_true rfl) (Nat.le_of_ble_eq_true rfl) ?_
  refine g_putF (pc1 := 17) (v := .ref (X + 1)) (M' := M5) (R' := uR R X 4 (some (X + 1))) d_State_init_14 rfl rfl ff_State_15 (fun _ => po_6_4 _) (shSt_0 hX) (by omega) (fun _ => fvl_R_self) (fun _ q h => fvl_R_ne q h) (fun _ _ _ h => ent_neR h) ?_
  refine Wp.topR (fun R6 eR6 => ?_)
  refine g_aload_n (pc1 := 18) d_State_init_17 rfl 0 rfl ?_
  refine g_bipush (pc1 := 20) (v := 6) d_State_init_18 rfl (by decide) ?_
  refine g_newI (pc1 := 22) d_State_init_20 rfl ca_int (shSt_2 hX) (fun i => ((Fz.wR (Fz.up (Fz.wM hF (by omega) eM5)) (by omega) eR6) _ (Nat.le_refl _) i).1) (by decide) (by decide) (by decide) (Nat.le_of_ble_eq_true rfl) (Nat.le_of_ble_eq_true rfl) ?_
  refine g_putF (pc1 := 25) (v := .ref (X + 2)) (M' := M5) (R' := uR R6 X 5 (some (X + 2))) d_State_init_22 rfl rfl ff_State_19 (fun _ => po_6_5 _) (shSt_0 hX) (by omega) (fun _ => fvl_R_self) (fun _ q h => fvl_R_ne q h) (fun _ _ _ h => ent_neR h) ?_
  refine Wp.topR (fun R7 eR7 => ?_)
  refine g_aload_n (pc1 := 26) d_State_init_25 rfl 0 rfl ?_
  refine g_iconst (pc1 := 27) (v := 5) d_State_init_26 rfl (by decide) ?_
  refine g_newI (pc1 := 29) d_State_init_27 rfl ca_int (shSt_3 hX) (fun i => ((Fz.wR (Fz.up (Fz.wR (Fz.up (Fz.wM hF (by omega) eM5)) (by omega) eR6)) (by omega) eR7) _ (Nat.le_refl _) i).1) (by decide) (by decide) (by decide) (Nat.le_of_ble_eq_true rfl) (Nat.le_of_ble_eq_true rfl) ?_
  refine g_putF (pc1 := 32) (v := .ref (X + 3)) (M' := M5) (R' := uR R7 X 6 (some (X + 3))) d_State_init_29 rfl rfl ff_State_22 (fun _ => po_6_6 _) (shSt_0 hX) (by omega) (fun _ => fvl_R_self) (fun _ q h => fvl_R_ne q h) (fun _ _ _ h => ent_neR h) ?_
  refine Wp.topR (fun R8 eR8 => ?_)
  refine g_aload_n (pc1 := 33) d_State_init_32 rfl 0 rfl ?_
  refine g_iconst (pc1 := 34) (v := 4) d_State_init_33 rfl (by decide) ?_
  refine g_newI (pc1 := 36) d_State_init_34 rfl ca_int (shSt_4 hX) (fun i => ((Fz.wR (Fz.up (Fz.wR (Fz.up (Fz.wR (Fz.up (Fz.wM hF (by omega) eM5)) (by omega) eR6)) (by omega) eR7)) (by omega) eR8) _ (Nat.le_refl _) i).1) (by decide) (by decide) (by decide) (Nat.le_of_ble_eq_true rfl) (Nat.le_of_ble_eq_true rfl) ?_
  refine g_putF (pc1 := 39) (v := .ref (X + 4)) (M' := M5) (R' := uR R8 X 7 (some (X + 4))) d_State_init_36 rfl rfl ff_State_25 (fun _ => po_6_7 _) (shSt_0 hX) (by omega) (fun _ => fvl_R_self) (fun _ q h => fvl_R_ne q h) (fun _ _ _ h => ent_neR h) ?_
  refine Wp.topR (fun R9 eR9 => ?_)
  refine g_aload_n (pc1 := 40) d_State_init_39 rfl 0 rfl ?_
  refine g_iconst (pc1 := 41) (v := 4) d_State_init_40 rfl (by decide) ?_
  refine g_newI (pc1 := 43) d_State_init_41 rfl ca_int (shSt_5 hX) (fun i => ((Fz.wR (Fz.up (Fz.wR (Fz.up (Fz.wR (Fz.up (Fz.wR (Fz.up (Fz.wM hF (by omega) eM5)) (by omega) eR6)) (by omega) eR7)) (by omega) eR8)) (by omega) eR9) _ (Nat.le_refl _) i).1) (by decide) (by decide) (by decide) (Nat.le_of_ble_eq_true rfl) (Nat.le_of_ble_eq_true rfl) ?_
  refine g_putF (pc1 := 46) (v := .ref (X + 5)) (M' := M5) (R' := uR R9 X 8 (some (X + 5))) d_State_init_43 rfl rfl ff_State_28 (fun _ => po_6_8 _) (shSt_0 hX) (by omega) (fun _ => fvl_R_self) (fun _ q h => fvl_R_ne q h) (fun _ _ _ h => ent_neR h) ?_
  refine Wp.topR (fun R10 eR10 => ?_)
  refine g_aload_n (pc1 := 47) d_State_init_46 rfl 0 rfl ?_
  refine g_bipush (pc1 := 49) (v := 12) d_State_init_47 rfl (by decide) ?_
  refine g_newI (pc1 := 51) d_State_init_49 rfl ca_int (shSt_6 hX) (fun i => ((Fz.wR (Fz.up (Fz.wR (Fz.up (Fz.wR (Fz.up (Fz.wR (Fz.up (Fz.wR (Fz.up (Fz.wM hF (by omega) eM5)) (by omega) eR6)) (by omega) eR7)) (by omega) eR8)) (by omega) eR9)) (by omega) eR10) _ (Nat.le_refl _) i).1) (by decide) (by decide) (by decide) (Nat.le_of_ble_eq_true rfl) (Nat.le_of_ble_eq_true rfl) ?_
  refine g_putF (pc1 := 54) (v := .ref (X + 6)) (M' := M5) (R' := uR R10 X 9 (some (X + 6))) d_State_init_51 rfl rfl ff_State_31 (fun _ => po_6_9 _) (shSt_0 hX) (by omega) (fun _ => fvl_R_self) (fun _ q h => fvl_R_ne q h) (fun _ _ _ h => ent_neR h) ?_
  refine Wp.topR (fun R11 eR11 => ?_)
  refine g_return rfl d_State_init_54 rfl ?_
  exact hQ _ _ _ (by subst_vars; rfl) (by subst_vars; rfl) (by subst_vars; rfl) (Fz.wR (Fz.up (Fz.wR (Fz.up (Fz.wR (Fz.up (Fz.wR (Fz.up (Fz.wR (Fz.up (Fz.wR (Fz.up (Fz.wM hF (by omega) eM5)) (by omega) eR6)) (by omega) eR7)) (by omega) eR8)) (by omega) eR9)) (by omega) eR10)) (by omega) eR11)
def kM_Land_init (Ld : Nat) (M : gM) : gM := (kM_Law_init (Ld + 21) (kM_Law_init (Ld + 17) (kM_Law_init (Ld + 13) (kM_Law_init (Ld + 9) M))))
def kL_Land_init (Ld : Nat) (L : gL) : gL := (kL_Law_init (Ld + 21) (kL_Law_init (Ld + 17) (kL_Law_init (Ld + 13) (kL_Law_init (Ld + 9) L))))
def kR_Land_init (Ld : Nat) (R : gR) : gR := (uR (uR (kR_Law_init (Ld + 21) (uR (kR_Law_init (Ld + 17) (uR (kR_Law_init (Ld + 13) (uR (kR_Law_init (Ld + 9) (uR (uR (uR (uR (uR (uR (uR (uR R Ld 5 (some (Ld + 1))) Ld 6 (some (Ld + 2))) Ld 7 (some (Ld + 3))) Ld 8 (some (Ld + 4))) Ld 9 (some (Ld + 5))) Ld 10 (some (Ld + 6))) Ld 11 (some (Ld + 7))) Ld 12 (some (Ld + 8)))) Ld 13 (some (Ld + 9)))) Ld 14 (some (Ld + 13)))) Ld 15 (some (Ld + 17)))) Ld 16 (some (Ld + 21))) Ld 17 (some (Ld + 25)))
set_option maxHeartbeats 4000000 in
set_option maxRecDepth 20000 in
theorem t0_Land_init {l : Launch} {M : gM} {L : gL} {R : gR} {Q : Option Value → gM → gL → gR → Prop} (Ld : Nat) (hLd : isLa Ld) (hF : Fz (Ld + 1) M L R) (hQ : ∀ (M' : gM) (L' : gL) (R' : gR), M' = kM_Land_init Ld M → L' = kL_Land_init Ld L → R' = kR_Land_init Ld R → Fz (Ld + 26) M' L' R' → Q none M' L' R') : Tm l y_Land_init (25, 1864, (Ld + 26)) (Ld + 1) [.ref Ld] M L R Q := by
  refine Tm.of (by decide) (Nat.le_of_ble_eq_true rfl) ?_
  show Wp l y_Land_init (25, 1864, (Ld + 26)) (Ld + 1) 0 0 0 [(0, .ref Ld)] [] M L R Q
  refine g_aload_n (pc1 := 1) d_Land_init_0 rfl 0 rfl ?_
  refine g_objInit (pc1 := 4) d_Land_init_1 rfl ml_Land_3 mi_objectInit mc_objectInit (by decide) (Nat.le_of_ble_eq_true rfl) ?_
  refine g_aload_n (pc1 := 5) d_Land_init_4 rfl 0 rfl ?_
  refine g_bipush (pc1 := 7) (v := 6) d_Land_init_5 rfl (by decide) ?_
  refine g_newI (pc1 := 9) d_Land_init_7 rfl ca_int (shLa_1 hLd) (fun i => (hF _ (Nat.le_refl _) i).1) (by decide) (by decide) (by decide) (Nat.le_of_ble_eq_true rfl) (Nat.le_of_ble_eq_true rfl) ?_
  refine g_putF (pc1 := 12) (v := .ref (Ld + 1)) (M' := M) (R' := uR R Ld 5 (some (Ld + 1))) d_Land_init_9 rfl rfl ff_Land_9 (fun _ => po_4_5 _) (shLa_0 hLd) (by omega) (fun _ => fvl_R_self) (fun _ q h => fvl_R_ne q h) (fun _ _ _ h => ent_neR h) ?_
  refine Wp.topR (fun R12 eR12 => ?_)
  refine g_aload_n (pc1 := 13) d_Land_init_12 rfl 0 rfl ?_
  refine g_bipush (pc1 := 15) (v := 6) d_Land_init_13 rfl (by decide) ?_
  refine g_newI (pc1 := 17) d_Land_init_15 rfl ca_int (shLa_2 hLd) (fun i => ((Fz.wR (Fz.up hF) (by omega) eR12) _ (Nat.le_refl _) i).1) (by decide) (by decide) (by decide) (Nat.le_of_ble_eq_true rfl) (Nat.le_of_ble_eq_true rfl) ?_
  refine g_putF (pc1 := 20) (v := .ref (Ld + 2)) (M' := M) (R' := uR R12 Ld 6 (some (Ld + 2))) d_Land_init_17 rfl rfl ff_Land_15 (fun _ => po_4_6 _) (shLa_0 hLd) (by omega) (fun _ => fvl_R_self) (fun _ q h => fvl_R_ne q h) (fun _ _ _ h => ent_neR h) ?_
  refine Wp.topR (fun R13 eR13 => ?_)
  refine g_aload_n (pc1 := 21) d_Land_init_20 rfl 0 rfl ?_
  refine g_bipush (pc1 := 23) (v := 18) d_Land_init_21 rfl (by decide) ?_
  refine g_newI (pc1 := 25) d_Land_init_23 rfl ca_int (shLa_3 hLd) (fun i => ((Fz.wR (Fz.up (Fz.wR (Fz.up hF) (by omega) eR12)) (by omega) eR13) _ (Nat.le_refl _) i).1) (by decide) (by decide) (by decide) (Nat.le_of_ble_eq_true rfl) (Nat.le_of_ble_eq_true rfl) ?_
  refine g_putF (pc1 := 28) (v := .ref (Ld + 3)) (M' := M) (R' := uR R13 Ld 7 (some (Ld + 3))) d_Land_init_25 rfl rfl ff_Land_18 (fun _ => po_4_7 _) (shLa_0 hLd) (by omega) (fun _ => fvl_R_self) (fun _ q h => fvl_R_ne q h) (fun _ _ _ h => ent_neR h) ?_
  refine Wp.topR (fun R14 eR14 => ?_)
  refine g_aload_n (pc1 := 29) d_Land_init_28 rfl 0 rfl ?_
  refine g_iconst (pc1 := 30) (v := 5) d_Land_init_29 rfl (by decide) ?_
  refine g_newI (pc1 := 32) d_Land_init_30 rfl ca_int (shLa_4 hLd) (fun i => ((Fz.wR (Fz.up (Fz.wR (Fz.up (Fz.wR (Fz.up hF) (by omega) eR12)) (by omega) eR13)) (by omega) eR14) _ (Nat.le_refl _) i).1) (by decide) (by decide) (by decide) (Nat.le_of_ble_eq_true rfl) (Nat.le_of_ble_eq_true rfl) ?_
  refine g_putF (pc1 := 35) (v := .ref (Ld + 4)) (M' := M) (R' := uR R14 Ld 8 (some (Ld + 4))) d_Land_init_32 rfl rfl ff_Land_21 (fun _ => po_4_8 _) (shLa_0 hLd) (by omega) (fun _ => fvl_R_self) (fun _ q h => fvl_R_ne q h) (fun _ _ _ h => ent_neR h) ?_
  refine Wp.topR (fun R15 eR15 => ?_)
  refine g_aload_n (pc1 := 36) d_Land_init_35 rfl 0 rfl ?_
  refine g_bipush (pc1 := 38) (v := 30) d_Land_init_36 rfl (by decide) ?_
  refine g_newI (pc1 := 40) d_Land_init_38 rfl ca_int (shLa_5 hLd) (fun i => ((Fz.wR (Fz.up (Fz.wR (Fz.up (Fz.wR (Fz.up (Fz.wR (Fz.up hF) (by omega) eR12)) (by omega) eR13)) (by omega) eR14)) (by omega) eR15) _ (Nat.le_refl _) i).1) (by decide) (by decide) (by decide) (Nat.le_of_ble_eq_true rfl) (Nat.le_of_ble_eq_true rfl) ?_
  refine g_putF (pc1 := 43) (v := .ref (Ld + 5)) (M' := M) (R' := uR R15 Ld 9 (some (Ld + 5))) d_Land_init_40 rfl rfl ff_Land_24 (fun _ => po_4_9 _) (shLa_0 hLd) (by omega) (fun _ => fvl_R_self) (fun _ q h => fvl_R_ne q h) (fun _ _ _ h => ent_neR h) ?_
  refine Wp.topR (fun R16 eR16 => ?_)
  refine g_aload_n (pc1 := 44) d_Land_init_43 rfl 0 rfl ?_
  refine g_iconst (pc1 := 45) (v := 4) d_Land_init_44 rfl (by decide) ?_
  refine g_newI (pc1 := 47) d_Land_init_45 rfl ca_int (shLa_6 hLd) (fun i => ((Fz.wR (Fz.up (Fz.wR (Fz.up (Fz.wR (Fz.up (Fz.wR (Fz.up (Fz.wR (Fz.up hF) (by omega) eR12)) (by omega) eR13)) (by omega) eR14)) (by omega) eR15)) (by omega) eR16) _ (Nat.le_refl _) i).1) (by decide) (by decide) (by decide) (Nat.le_of_ble_eq_true rfl) (Nat.le_of_ble_eq_true rfl) ?_
  refine g_putF (pc1 := 50) (v := .ref (Ld + 6)) (M' := M) (R' := uR R16 Ld 10 (some (Ld + 6))) d_Land_init_47 rfl rfl ff_Land_27 (fun _ => po_4_10 _) (shLa_0 hLd) (by omega) (fun _ => fvl_R_self) (fun _ q h => fvl_R_ne q h) (fun _ _ _ h => ent_neR h) ?_
  refine Wp.topR (fun R17 eR17 => ?_)
  refine g_aload_n (pc1 := 51) d_Land_init_50 rfl 0 rfl ?_
  refine g_bipush (pc1 := 53) (v := 6) d_Land_init_51 rfl (by decide) ?_
  refine g_newI (pc1 := 55) d_Land_init_53 rfl ca_int (shLa_7 hLd) (fun i => ((Fz.wR (Fz.up (Fz.wR (Fz.up (Fz.wR (Fz.up (Fz.wR (Fz.up (Fz.wR (Fz.up (Fz.wR (Fz.up hF) (by omega) eR12)) (by omega) eR13)) (by omega) eR14)) (by omega) eR15)) (by omega) eR16)) (by omega) eR17) _ (Nat.le_refl _) i).1) (by decide) (by decide) (by decide) (Nat.le_of_ble_eq_true rfl) (Nat.le_of_ble_eq_true rfl) ?_
  refine g_putF (pc1 := 58) (v := .ref (Ld + 7)) (M' := M) (R' := uR R17 Ld 11 (some (Ld + 7))) d_Land_init_55 rfl rfl ff_Land_30 (fun _ => po_4_11 _) (shLa_0 hLd) (by omega) (fun _ => fvl_R_self) (fun _ q h => fvl_R_ne q h) (fun _ _ _ h => ent_neR h) ?_
  refine Wp.topR (fun R18 eR18 => ?_)
  refine g_aload_n (pc1 := 59) d_Land_init_58 rfl 0 rfl ?_
  refine g_bipush (pc1 := 61) (v := 6) d_Land_init_59 rfl (by decide) ?_
  refine g_newI (pc1 := 63) d_Land_init_61 rfl ca_int (shLa_8 hLd) (fun i => ((Fz.wR (Fz.up (Fz.wR (Fz.up (Fz.wR (Fz.up (Fz.wR (Fz.up (Fz.wR (Fz.up (Fz.wR (Fz.up (Fz.wR (Fz.up hF) (by omega) eR12)) (by omega) eR13)) (by omega) eR14)) (by omega) eR15)) (by omega) eR16)) (by omega) eR17)) (by omega) eR18) _ (Nat.le_refl _) i).1) (by decide) (by decide) (by decide) (Nat.le_of_ble_eq_true rfl) (Nat.le_of_ble_eq_true rfl) ?_
  refine g_putF (pc1 := 66) (v := .ref (Ld + 8)) (M' := M) (R' := uR R18 Ld 12 (some (Ld + 8))) d_Land_init_63 rfl rfl ff_Land_33 (fun _ => po_4_12 _) (shLa_0 hLd) (by omega) (fun _ => fvl_R_self) (fun _ q h => fvl_R_ne q h) (fun _ _ _ h => ent_neR h) ?_
  refine Wp.topR (fun R19 eR19 => ?_)
  refine g_aload_n (pc1 := 67) d_Land_init_66 rfl 0 rfl ?_
  refine g_new (pc1 := 70) (T := T_Law) (ty := ty_Law) d_Land_init_67 rfl rfl (fun w h => gtb_of (in_Law w h).1 (in_Law w h).2) tyk_Law (by decide) ck_Land_36 cn_Law cz_Law (shLw_0 (isLw_9 hLd)) (fun i => ((Fz.wR (Fz.up (Fz.wR (Fz.up (Fz.wR (Fz.up (Fz.wR (Fz.up (Fz.wR (Fz.up (Fz.wR (Fz.up (Fz.wR (Fz.up (Fz.wR (Fz.up hF) (by omega) eR12)) (by omega) eR13)) (by omega) eR14)) (by omega) eR15)) (by omega) eR16)) (by omega) eR17)) (by omega) eR18)) (by omega) eR19) _ (Nat.le_refl _) i).1) (fun i => ((Fz.wR (Fz.up (Fz.wR (Fz.up (Fz.wR (Fz.up (Fz.wR (Fz.up (Fz.wR (Fz.up (Fz.wR (Fz.up (Fz.wR (Fz.up (Fz.wR (Fz.up hF) (by omega) eR12)) (by omega) eR13)) (by omega) eR14)) (by omega) eR15)) (by omega) eR16)) (by omega) eR17)) (by omega) eR18)) (by omega) eR19) _ (Nat.le_refl _) i).2.2) (Nat.le_of_ble_eq_true rfl) (Nat.le_of_ble_eq_true rfl) ?_
  refine g_dup (pc1 := 71) d_Land_init_70 rfl rfl ?_
  refine g_callI (pc1 := 74) (E' := (3, 441, (Ld + 13))) (As := []) (rest := [.ref (Ld + 9), .ref Ld]) d_Land_init_71 rfl mo_Land_38 mi_Law_init rfl rfl (by decide) rfl rfl (Nat.le_of_ble_eq_true rfl) ⟨Nat.le_of_ble_eq_true rfl, Nat.le_of_ble_eq_true rfl⟩ rfl ?_
  refine t0_Law_init (Ld + 9) (isLw_9 hLd) (Fz.up (Fz.wR (Fz.up (Fz.wR (Fz.up (Fz.wR (Fz.up (Fz.wR (Fz.up (Fz.wR (Fz.up (Fz.wR (Fz.up (Fz.wR (Fz.up (Fz.wR (Fz.up hF) (by omega) eR12)) (by omega) eR13)) (by omega) eR14)) (by omega) eR15)) (by omega) eR16)) (by omega) eR17)) (by omega) eR18)) (by omega) eR19)) (fun M20 L21 R22 eM20 eL21 eR22 F23 => ?_)
  dsimp only
  refine g_putF (pc1 := 77) (v := .ref (Ld + 9)) (M' := M20) (R' := uR R22 Ld 13 (some (Ld + 9))) d_Land_init_74 rfl rfl ff_Land_39 (fun _ => po_4_13 _) (shLa_0 hLd) (by omega) (fun _ => fvl_R_self) (fun _ q h => fvl_R_ne q h) (fun _ _ _ h => ent_neR h) ?_
  refine Wp.topR (fun R24 eR24 => ?_)
  refine g_aload_n (pc1 := 78) d_Land_init_77 rfl 0 rfl ?_
  refine g_new (pc1 := 81) (T := T_Law) (ty := ty_Law) d_Land_init_78 rfl rfl (fun w h => gtb_of (in_Law w h).1 (in_Law w h).2) tyk_Law (by decide) ck_Land_36 cn_Law cz_Law (shLw_0 (isLw_13 hLd)) (fun i => ((Fz.wR F23 (by omega) eR24) _ (Nat.le_refl _) i).1) (fun i => ((Fz.wR F23 (by omega) eR24) _ (Nat.le_refl _) i).2.2) (Nat.le_of_ble_eq_true rfl) (Nat.le_of_ble_eq_true rfl) ?_
  refine g_dup (pc1 := 82) d_Land_init_81 rfl rfl ?_
  refine g_callI (pc1 := 85) (E' := (3, 441, (Ld + 17))) (As := []) (rest := [.ref (Ld + 13), .ref Ld]) d_Land_init_82 rfl mo_Land_38 mi_Law_init rfl rfl (by decide) rfl rfl (Nat.le_of_ble_eq_true rfl) ⟨Nat.le_of_ble_eq_true rfl, Nat.le_of_ble_eq_true rfl⟩ rfl ?_
  refine t0_Law_init (Ld + 13) (isLw_13 hLd) (Fz.up (Fz.wR F23 (by omega) eR24)) (fun M25 L26 R27 eM25 eL26 eR27 F28 => ?_)
  dsimp only
  refine g_putF (pc1 := 88) (v := .ref (Ld + 13)) (M' := M25) (R' := uR R27 Ld 14 (some (Ld + 13))) d_Land_init_85 rfl rfl ff_Land_43 (fun _ => po_4_14 _) (shLa_0 hLd) (by omega) (fun _ => fvl_R_self) (fun _ q h => fvl_R_ne q h) (fun _ _ _ h => ent_neR h) ?_
  refine Wp.topR (fun R29 eR29 => ?_)
  refine g_aload_n (pc1 := 89) d_Land_init_88 rfl 0 rfl ?_
  refine g_new (pc1 := 92) (T := T_Law) (ty := ty_Law) d_Land_init_89 rfl rfl (fun w h => gtb_of (in_Law w h).1 (in_Law w h).2) tyk_Law (by decide) ck_Land_36 cn_Law cz_Law (shLw_0 (isLw_17 hLd)) (fun i => ((Fz.wR F28 (by omega) eR29) _ (Nat.le_refl _) i).1) (fun i => ((Fz.wR F28 (by omega) eR29) _ (Nat.le_refl _) i).2.2) (Nat.le_of_ble_eq_true rfl) (Nat.le_of_ble_eq_true rfl) ?_
  refine g_dup (pc1 := 93) d_Land_init_92 rfl rfl ?_
  refine g_callI (pc1 := 96) (E' := (3, 441, (Ld + 21))) (As := []) (rest := [.ref (Ld + 17), .ref Ld]) d_Land_init_93 rfl mo_Land_38 mi_Law_init rfl rfl (by decide) rfl rfl (Nat.le_of_ble_eq_true rfl) ⟨Nat.le_of_ble_eq_true rfl, Nat.le_of_ble_eq_true rfl⟩ rfl ?_
  refine t0_Law_init (Ld + 17) (isLw_17 hLd) (Fz.up (Fz.wR F28 (by omega) eR29)) (fun M30 L31 R32 eM30 eL31 eR32 F33 => ?_)
  dsimp only
  refine g_putF (pc1 := 99) (v := .ref (Ld + 17)) (M' := M30) (R' := uR R32 Ld 15 (some (Ld + 17))) d_Land_init_96 rfl rfl ff_Land_46 (fun _ => po_4_15 _) (shLa_0 hLd) (by omega) (fun _ => fvl_R_self) (fun _ q h => fvl_R_ne q h) (fun _ _ _ h => ent_neR h) ?_
  refine Wp.topR (fun R34 eR34 => ?_)
  refine g_aload_n (pc1 := 100) d_Land_init_99 rfl 0 rfl ?_
  refine g_new (pc1 := 103) (T := T_Law) (ty := ty_Law) d_Land_init_100 rfl rfl (fun w h => gtb_of (in_Law w h).1 (in_Law w h).2) tyk_Law (by decide) ck_Land_36 cn_Law cz_Law (shLw_0 (isLw_21 hLd)) (fun i => ((Fz.wR F33 (by omega) eR34) _ (Nat.le_refl _) i).1) (fun i => ((Fz.wR F33 (by omega) eR34) _ (Nat.le_refl _) i).2.2) (Nat.le_of_ble_eq_true rfl) (Nat.le_of_ble_eq_true rfl) ?_
  refine g_dup (pc1 := 104) d_Land_init_103 rfl rfl ?_
  refine g_callI (pc1 := 107) (E' := (3, 441, (Ld + 25))) (As := []) (rest := [.ref (Ld + 21), .ref Ld]) d_Land_init_104 rfl mo_Land_38 mi_Law_init rfl rfl (by decide) rfl rfl (Nat.le_of_ble_eq_true rfl) ⟨Nat.le_of_ble_eq_true rfl, Nat.le_of_ble_eq_true rfl⟩ rfl ?_
  refine t0_Law_init (Ld + 21) (isLw_21 hLd) (Fz.up (Fz.wR F33 (by omega) eR34)) (fun M35 L36 R37 eM35 eL36 eR37 F38 => ?_)
  dsimp only
  refine g_putF (pc1 := 110) (v := .ref (Ld + 21)) (M' := M35) (R' := uR R37 Ld 16 (some (Ld + 21))) d_Land_init_107 rfl rfl ff_Land_49 (fun _ => po_4_16 _) (shLa_0 hLd) (by omega) (fun _ => fvl_R_self) (fun _ q h => fvl_R_ne q h) (fun _ _ _ h => ent_neR h) ?_
  refine Wp.topR (fun R39 eR39 => ?_)
  refine g_aload_n (pc1 := 111) d_Land_init_110 rfl 0 rfl ?_
  refine g_iconst (pc1 := 112) (v := 3) d_Land_init_111 rfl (by decide) ?_
  refine g_newI (pc1 := 114) d_Land_init_112 rfl ca_int (shLa_25 hLd) (fun i => ((Fz.wR F38 (by omega) eR39) _ (Nat.le_refl _) i).1) (by decide) (by decide) (by decide) (Nat.le_of_ble_eq_true rfl) (Nat.le_of_ble_eq_true rfl) ?_
  refine g_putF (pc1 := 117) (v := .ref (Ld + 25)) (M' := M35) (R' := uR R39 Ld 17 (some (Ld + 25))) d_Land_init_114 rfl rfl ff_Land_52 (fun _ => po_4_17 _) (shLa_0 hLd) (by omega) (fun _ => fvl_R_self) (fun _ q h => fvl_R_ne q h) (fun _ _ _ h => ent_neR h) ?_
  refine Wp.topR (fun R40 eR40 => ?_)
  refine g_return rfl d_Land_init_117 rfl ?_
  exact hQ _ _ _ (by subst_vars; rfl) (by subst_vars; rfl) (by subst_vars; rfl) (Fz.wR (Fz.up (Fz.wR F38 (by omega) eR39)) (by omega) eR40)
def kM_Told_init (M : gM) : gM := M
def kL_Told_init (L : gL) : gL := L
def kR_Told_init (R : gR) : gR := (uR (uR (uR (uR (uR (uR (uR R 383 0 (some 384)) 383 1 (some 385)) 383 2 (some 386)) 383 4 (some 387)) 383 5 (some 388)) 383 6 (some 389)) 383 8 (some 390))
set_option maxHeartbeats 4000000 in
set_option maxRecDepth 20000 in
theorem t0_Told_init {l : Launch} {M : gM} {L : gL} {R : gR} {Q : Option Value → gM → gL → gR → Prop} (hF : Fz 384 M L R) (hQ : ∀ (M' : gM) (L' : gL) (R' : gR), M' = kM_Told_init M → L' = kL_Told_init L → R' = kR_Told_init R → Fz 391 M' L' R' → Q none M' L' R') : Tm l y_Told_init (7, 485, 391) 384 [.ref 383] M L R Q := by
  refine Tm.of (by decide) (Nat.le_of_ble_eq_true rfl) ?_
  show Wp l y_Told_init (7, 485, 391) 384 0 0 0 [(0, .ref 383)] [] M L R Q
  refine g_aload_n (pc1 := 1) d_Told_init_0 rfl 0 rfl ?_
  refine g_objInit (pc1 := 4) d_Told_init_1 rfl ml_Told_5 mi_objectInit mc_objectInit (by decide) (Nat.le_of_ble_eq_true rfl) ?_
  refine g_aload_n (pc1 := 5) d_Told_init_4 rfl 0 rfl ?_
  refine g_bipush (pc1 := 7) (v := 20) d_Told_init_5 rfl (by decide) ?_
  refine g_newI (pc1 := 9) d_Told_init_7 rfl ca_int sh_384 (fun i => (hF _ (Nat.le_refl _) i).1) (by decide) (by decide) (by decide) (Nat.le_of_ble_eq_true rfl) (Nat.le_of_ble_eq_true rfl) ?_
  refine g_putF (pc1 := 12) (v := .ref 384) (M' := M) (R' := uR R 383 0 (some 384)) d_Told_init_9 rfl rfl ff_Told_11 (fun _ => po_9_0 _) sh_383 (by decide) (fun _ => fvl_R_self) (fun _ q h => fvl_R_ne q h) (fun _ _ _ h => ent_neR h) ?_
  refine Wp.topR (fun R41 eR41 => ?_)
  refine g_aload_n (pc1 := 13) d_Told_init_12 rfl 0 rfl ?_
  refine g_bipush (pc1 := 15) (v := 20) d_Told_init_13 rfl (by decide) ?_
  refine g_newI (pc1 := 17) d_Told_init_15 rfl ca_int sh_385 (fun i => ((Fz.wR (Fz.up hF) (by decide) eR41) _ (Nat.le_refl _) i).1) (by decide) (by decide) (by decide) (Nat.le_of_ble_eq_true rfl) (Nat.le_of_ble_eq_true rfl) ?_
  refine g_putF (pc1 := 20) (v := .ref 385) (M' := M) (R' := uR R41 383 1 (some 385)) d_Told_init_17 rfl rfl ff_Told_15 (fun _ => po_9_1 _) sh_383 (by decide) (fun _ => fvl_R_self) (fun _ q h => fvl_R_ne q h) (fun _ _ _ h => ent_neR h) ?_
  refine Wp.topR (fun R42 eR42 => ?_)
  refine g_aload_n (pc1 := 21) d_Told_init_20 rfl 0 rfl ?_
  refine g_bipush (pc1 := 23) (v := 20) d_Told_init_21 rfl (by decide) ?_
  refine g_newI (pc1 := 25) d_Told_init_23 rfl ca_int sh_386 (fun i => ((Fz.wR (Fz.up (Fz.wR (Fz.up hF) (by decide) eR41)) (by decide) eR42) _ (Nat.le_refl _) i).1) (by decide) (by decide) (by decide) (Nat.le_of_ble_eq_true rfl) (Nat.le_of_ble_eq_true rfl) ?_
  refine g_putF (pc1 := 28) (v := .ref 386) (M' := M) (R' := uR R42 383 2 (some 386)) d_Told_init_25 rfl rfl ff_Told_18 (fun _ => po_9_2 _) sh_383 (by decide) (fun _ => fvl_R_self) (fun _ q h => fvl_R_ne q h) (fun _ _ _ h => ent_neR h) ?_
  refine Wp.topR (fun R43 eR43 => ?_)
  refine g_aload_n (pc1 := 29) d_Told_init_28 rfl 0 rfl ?_
  refine g_bipush (pc1 := 31) (v := 65) d_Told_init_29 rfl (by decide) ?_
  refine g_newI (pc1 := 33) d_Told_init_31 rfl ca_int sh_387 (fun i => ((Fz.wR (Fz.up (Fz.wR (Fz.up (Fz.wR (Fz.up hF) (by decide) eR41)) (by decide) eR42)) (by decide) eR43) _ (Nat.le_refl _) i).1) (by decide) (by decide) (by decide) (Nat.le_of_ble_eq_true rfl) (Nat.le_of_ble_eq_true rfl) ?_
  refine g_putF (pc1 := 36) (v := .ref 387) (M' := M) (R' := uR R43 383 4 (some 387)) d_Told_init_33 rfl rfl ff_Told_21 (fun _ => po_9_4 _) sh_383 (by decide) (fun _ => fvl_R_self) (fun _ q h => fvl_R_ne q h) (fun _ _ _ h => ent_neR h) ?_
  refine Wp.topR (fun R44 eR44 => ?_)
  refine g_aload_n (pc1 := 37) d_Told_init_36 rfl 0 rfl ?_
  refine g_bipush (pc1 := 39) (v := 65) d_Told_init_37 rfl (by decide) ?_
  refine g_newI (pc1 := 41) d_Told_init_39 rfl ca_int sh_388 (fun i => ((Fz.wR (Fz.up (Fz.wR (Fz.up (Fz.wR (Fz.up (Fz.wR (Fz.up hF) (by decide) eR41)) (by decide) eR42)) (by decide) eR43)) (by decide) eR44) _ (Nat.le_refl _) i).1) (by decide) (by decide) (by decide) (Nat.le_of_ble_eq_true rfl) (Nat.le_of_ble_eq_true rfl) ?_
  refine g_putF (pc1 := 44) (v := .ref 388) (M' := M) (R' := uR R44 383 5 (some 388)) d_Told_init_41 rfl rfl ff_Told_24 (fun _ => po_9_5 _) sh_383 (by decide) (fun _ => fvl_R_self) (fun _ q h => fvl_R_ne q h) (fun _ _ _ h => ent_neR h) ?_
  refine Wp.topR (fun R45 eR45 => ?_)
  refine g_aload_n (pc1 := 45) d_Told_init_44 rfl 0 rfl ?_
  refine g_sipush (pc1 := 48) (v := 195) d_Told_init_45 rfl (by decide) ?_
  refine g_newI (pc1 := 50) d_Told_init_48 rfl ca_int sh_389 (fun i => ((Fz.wR (Fz.up (Fz.wR (Fz.up (Fz.wR (Fz.up (Fz.wR (Fz.up (Fz.wR (Fz.up hF) (by decide) eR41)) (by decide) eR42)) (by decide) eR43)) (by decide) eR44)) (by decide) eR45) _ (Nat.le_refl _) i).1) (by decide) (by decide) (by decide) (Nat.le_of_ble_eq_true rfl) (Nat.le_of_ble_eq_true rfl) ?_
  refine g_putF (pc1 := 53) (v := .ref 389) (M' := M) (R' := uR R45 383 6 (some 389)) d_Told_init_50 rfl rfl ff_Told_27 (fun _ => po_9_6 _) sh_383 (by decide) (fun _ => fvl_R_self) (fun _ q h => fvl_R_ne q h) (fun _ _ _ h => ent_neR h) ?_
  refine Wp.topR (fun R46 eR46 => ?_)
  refine g_aload_n (pc1 := 54) d_Told_init_53 rfl 0 rfl ?_
  refine g_bipush (pc1 := 56) (v := 100) d_Told_init_54 rfl (by decide) ?_
  refine g_newI (pc1 := 58) d_Told_init_56 rfl ca_int sh_390 (fun i => ((Fz.wR (Fz.up (Fz.wR (Fz.up (Fz.wR (Fz.up (Fz.wR (Fz.up (Fz.wR (Fz.up (Fz.wR (Fz.up hF) (by decide) eR41)) (by decide) eR42)) (by decide) eR43)) (by decide) eR44)) (by decide) eR45)) (by decide) eR46) _ (Nat.le_refl _) i).1) (by decide) (by decide) (by decide) (Nat.le_of_ble_eq_true rfl) (Nat.le_of_ble_eq_true rfl) ?_
  refine g_putF (pc1 := 61) (v := .ref 390) (M' := M) (R' := uR R46 383 8 (some 390)) d_Told_init_58 rfl rfl ff_Told_30 (fun _ => po_9_8 _) sh_383 (by decide) (fun _ => fvl_R_self) (fun _ q h => fvl_R_ne q h) (fun _ _ _ h => ent_neR h) ?_
  refine Wp.topR (fun R47 eR47 => ?_)
  refine g_return rfl d_Told_init_61 rfl ?_
  exact hQ _ _ _ (by subst_vars; rfl) (by subst_vars; rfl) (by subst_vars; rfl) (Fz.wR (Fz.up (Fz.wR (Fz.up (Fz.wR (Fz.up (Fz.wR (Fz.up (Fz.wR (Fz.up (Fz.wR (Fz.up (Fz.wR (Fz.up hF) (by decide) eR41)) (by decide) eR42)) (by decide) eR43)) (by decide) eR44)) (by decide) eR45)) (by decide) eR46)) (by decide) eR47)
def kM_PotSearch_init (M : gM) : gM := M
def kL_PotSearch_init (L : gL) : gL := L
def kR_PotSearch_init (R : gR) : gR := (uR (uR (uR (uR R 391 0 (some 392)) 391 1 (some 393)) 391 2 (some 394)) 391 5 (some 395))
set_option maxHeartbeats 4000000 in
set_option maxRecDepth 20000 in
theorem t0_PotSearch_init {l : Launch} {M : gM} {L : gL} {R : gR} {Q : Option Value → gM → gL → gR → Prop} (hF : Fz 392 M L R) (hQ : ∀ (M' : gM) (L' : gL) (R' : gR), M' = kM_PotSearch_init M → L' = kL_PotSearch_init L → R' = kR_PotSearch_init R → Fz 396 M' L' R' → Q none M' L' R') : Tm l y_PotSearch_init (4, 18, 396) 392 [.ref 391] M L R Q := by
  refine Tm.of (by decide) (Nat.le_of_ble_eq_true rfl) ?_
  show Wp l y_PotSearch_init (4, 18, 396) 392 0 0 0 [(0, .ref 391)] [] M L R Q
  refine g_aload_n (pc1 := 1) d_PotSearch_init_0 rfl 0 rfl ?_
  refine g_objInit (pc1 := 4) d_PotSearch_init_1 rfl ml_PotSearch_3 mi_objectInit mc_objectInit (by decide) (Nat.le_of_ble_eq_true rfl) ?_
  refine g_aload_n (pc1 := 5) d_PotSearch_init_4 rfl 0 rfl ?_
  refine g_iconst (pc1 := 6) (v := 3) d_PotSearch_init_5 rfl (by decide) ?_
  refine g_newI (pc1 := 8) d_PotSearch_init_6 rfl ca_int sh_392 (fun i => (hF _ (Nat.le_refl _) i).1) (by decide) (by decide) (by decide) (Nat.le_of_ble_eq_true rfl) (Nat.le_of_ble_eq_true rfl) ?_
  refine g_putF (pc1 := 11) (v := .ref 392) (M' := M) (R' := uR R 391 0 (some 392)) d_PotSearch_init_8 rfl rfl ff_PotSearch_9 (fun _ => po_10_0 _) sh_391 (by decide) (fun _ => fvl_R_self) (fun _ q h => fvl_R_ne q h) (fun _ _ _ h => ent_neR h) ?_
  refine Wp.topR (fun R48 eR48 => ?_)
  refine g_aload_n (pc1 := 12) d_PotSearch_init_11 rfl 0 rfl ?_
  refine g_bipush (pc1 := 14) (v := 6) d_PotSearch_init_12 rfl (by decide) ?_
  refine g_newI (pc1 := 16) d_PotSearch_init_14 rfl ca_int sh_393 (fun i => ((Fz.wR (Fz.up hF) (by decide) eR48) _ (Nat.le_refl _) i).1) (by decide) (by decide) (by decide) (Nat.le_of_ble_eq_true rfl) (Nat.le_of_ble_eq_true rfl) ?_
  refine g_putF (pc1 := 19) (v := .ref 393) (M' := M) (R' := uR R48 391 1 (some 393)) d_PotSearch_init_16 rfl rfl ff_PotSearch_15 (fun _ => po_10_1 _) sh_391 (by decide) (fun _ => fvl_R_self) (fun _ q h => fvl_R_ne q h) (fun _ _ _ h => ent_neR h) ?_
  refine Wp.topR (fun R49 eR49 => ?_)
  refine g_aload_n (pc1 := 20) d_PotSearch_init_19 rfl 0 rfl ?_
  refine g_iconst (pc1 := 21) (v := 3) d_PotSearch_init_20 rfl (by decide) ?_
  refine g_newI (pc1 := 23) d_PotSearch_init_21 rfl ca_int sh_394 (fun i => ((Fz.wR (Fz.up (Fz.wR (Fz.up hF) (by decide) eR48)) (by decide) eR49) _ (Nat.le_refl _) i).1) (by decide) (by decide) (by decide) (Nat.le_of_ble_eq_true rfl) (Nat.le_of_ble_eq_true rfl) ?_
  refine g_putF (pc1 := 26) (v := .ref 394) (M' := M) (R' := uR R49 391 2 (some 394)) d_PotSearch_init_23 rfl rfl ff_PotSearch_18 (fun _ => po_10_2 _) sh_391 (by decide) (fun _ => fvl_R_self) (fun _ q h => fvl_R_ne q h) (fun _ _ _ h => ent_neR h) ?_
  refine Wp.topR (fun R50 eR50 => ?_)
  refine g_aload_n (pc1 := 27) d_PotSearch_init_26 rfl 0 rfl ?_
  refine g_bipush (pc1 := 29) (v := 6) d_PotSearch_init_27 rfl (by decide) ?_
  refine g_newI (pc1 := 31) d_PotSearch_init_29 rfl ca_int sh_395 (fun i => ((Fz.wR (Fz.up (Fz.wR (Fz.up (Fz.wR (Fz.up hF) (by decide) eR48)) (by decide) eR49)) (by decide) eR50) _ (Nat.le_refl _) i).1) (by decide) (by decide) (by decide) (Nat.le_of_ble_eq_true rfl) (Nat.le_of_ble_eq_true rfl) ?_
  refine g_putF (pc1 := 34) (v := .ref 395) (M' := M) (R' := uR R50 391 5 (some 395)) d_PotSearch_init_31 rfl rfl ff_PotSearch_21 (fun _ => po_10_5 _) sh_391 (by decide) (fun _ => fvl_R_self) (fun _ q h => fvl_R_ne q h) (fun _ _ _ h => ent_neR h) ?_
  refine Wp.topR (fun R51 eR51 => ?_)
  refine g_return rfl d_PotSearch_init_34 rfl ?_
  exact hQ _ _ _ (by subst_vars; rfl) (by subst_vars; rfl) (by subst_vars; rfl) (Fz.wR (Fz.up (Fz.wR (Fz.up (Fz.wR (Fz.up (Fz.wR (Fz.up hF) (by decide) eR48)) (by decide) eR49)) (by decide) eR50)) (by decide) eR51)
def kM_MenuSearch_init (M : gM) : gM := M
def kL_MenuSearch_init (L : gL) : gL := L
def kR_MenuSearch_init (R : gR) : gR := (uR (uR (uR (uR R 396 0 (some 397)) 396 1 (some 398)) 396 2 (some 399)) 396 3 (some 400))
set_option maxHeartbeats 4000000 in
set_option maxRecDepth 20000 in
theorem t0_MenuSearch_init {l : Launch} {M : gM} {L : gL} {R : gR} {Q : Option Value → gM → gL → gR → Prop} (hF : Fz 397 M L R) (hQ : ∀ (M' : gM) (L' : gL) (R' : gR), M' = kM_MenuSearch_init M → L' = kL_MenuSearch_init L → R' = kR_MenuSearch_init R → Fz 401 M' L' R' → Q none M' L' R') : Tm l y_MenuSearch_init (4, 92, 401) 397 [.ref 396] M L R Q := by
  refine Tm.of (by decide) (Nat.le_of_ble_eq_true rfl) ?_
  show Wp l y_MenuSearch_init (4, 92, 401) 397 0 0 0 [(0, .ref 396)] [] M L R Q
  refine g_aload_n (pc1 := 1) d_MenuSearch_init_0 rfl 0 rfl ?_
  refine g_objInit (pc1 := 4) d_MenuSearch_init_1 rfl ml_MenuSearch_3 mi_objectInit mc_objectInit (by decide) (Nat.le_of_ble_eq_true rfl) ?_
  refine g_aload_n (pc1 := 5) d_MenuSearch_init_4 rfl 0 rfl ?_
  refine g_iconst (pc1 := 6) (v := 4) d_MenuSearch_init_5 rfl (by decide) ?_
  refine g_newZ (pc1 := 8) d_MenuSearch_init_6 rfl ca_boolean sh_397 (fun i => (hF _ (Nat.le_refl _) i).1) (by decide) (by decide) (by decide) (Nat.le_of_ble_eq_true rfl) (Nat.le_of_ble_eq_true rfl) ?_
  refine g_putF (pc1 := 11) (v := .ref 397) (M' := M) (R' := uR R 396 0 (some 397)) d_MenuSearch_init_8 rfl rfl ff_MenuSearch_9 (fun _ => po_11_0 _) sh_396 (by decide) (fun _ => fvl_R_self) (fun _ q h => fvl_R_ne q h) (fun _ _ _ h => ent_neR h) ?_
  refine Wp.topR (fun R52 eR52 => ?_)
  refine g_aload_n (pc1 := 12) d_MenuSearch_init_11 rfl 0 rfl ?_
  refine g_bipush (pc1 := 14) (v := 80) d_MenuSearch_init_12 rfl (by decide) ?_
  refine g_newZ (pc1 := 16) d_MenuSearch_init_14 rfl ca_boolean sh_398 (fun i => ((Fz.wR (Fz.up hF) (by decide) eR52) _ (Nat.le_refl _) i).1) (by decide) (by decide) (by decide) (Nat.le_of_ble_eq_true rfl) (Nat.le_of_ble_eq_true rfl) ?_
  refine g_putF (pc1 := 19) (v := .ref 398) (M' := M) (R' := uR R52 396 1 (some 398)) d_MenuSearch_init_16 rfl rfl ff_MenuSearch_15 (fun _ => po_11_1 _) sh_396 (by decide) (fun _ => fvl_R_self) (fun _ q h => fvl_R_ne q h) (fun _ _ _ h => ent_neR h) ?_
  refine Wp.topR (fun R53 eR53 => ?_)
  refine g_aload_n (pc1 := 20) d_MenuSearch_init_19 rfl 0 rfl ?_
  refine g_iconst (pc1 := 21) (v := 4) d_MenuSearch_init_20 rfl (by decide) ?_
  refine g_newI (pc1 := 23) d_MenuSearch_init_21 rfl ca_int sh_399 (fun i => ((Fz.wR (Fz.up (Fz.wR (Fz.up hF) (by decide) eR52)) (by decide) eR53) _ (Nat.le_refl _) i).1) (by decide) (by decide) (by decide) (Nat.le_of_ble_eq_true rfl) (Nat.le_of_ble_eq_true rfl) ?_
  refine g_putF (pc1 := 26) (v := .ref 399) (M' := M) (R' := uR R53 396 2 (some 399)) d_MenuSearch_init_23 rfl rfl ff_MenuSearch_18 (fun _ => po_11_2 _) sh_396 (by decide) (fun _ => fvl_R_self) (fun _ q h => fvl_R_ne q h) (fun _ _ _ h => ent_neR h) ?_
  refine Wp.topR (fun R54 eR54 => ?_)
  refine g_aload_n (pc1 := 27) d_MenuSearch_init_26 rfl 0 rfl ?_
  refine g_iconst (pc1 := 28) (v := 4) d_MenuSearch_init_27 rfl (by decide) ?_
  refine g_newI (pc1 := 30) d_MenuSearch_init_28 rfl ca_int sh_400 (fun i => ((Fz.wR (Fz.up (Fz.wR (Fz.up (Fz.wR (Fz.up hF) (by decide) eR52)) (by decide) eR53)) (by decide) eR54) _ (Nat.le_refl _) i).1) (by decide) (by decide) (by decide) (Nat.le_of_ble_eq_true rfl) (Nat.le_of_ble_eq_true rfl) ?_
  refine g_putF (pc1 := 33) (v := .ref 400) (M' := M) (R' := uR R54 396 3 (some 400)) d_MenuSearch_init_30 rfl rfl ff_MenuSearch_22 (fun _ => po_11_3 _) sh_396 (by decide) (fun _ => fvl_R_self) (fun _ q h => fvl_R_ne q h) (fun _ _ _ h => ent_neR h) ?_
  refine Wp.topR (fun R55 eR55 => ?_)
  refine g_return rfl d_MenuSearch_init_33 rfl ?_
  exact hQ _ _ _ (by subst_vars; rfl) (by subst_vars; rfl) (by subst_vars; rfl) (Fz.wR (Fz.up (Fz.wR (Fz.up (Fz.wR (Fz.up (Fz.wR (Fz.up hF) (by decide) eR52)) (by decide) eR53)) (by decide) eR54)) (by decide) eR55)
end MG2x2
section MG2x3
theorem kR_State_ne {X c j : Nat} {R : gR} (h : c ≠ X) : kR_State_init X R c j = R c j := by
  unfold kR_State_init
  simp only [uR_at, if_neg (fun q : c = X ∧ _ => h q.1)]
theorem t0_withLetter {l : Launch} {n : Nat} {M : gM} {L : gL} {R : gR} {Q : Option Value → gM → gL → gR → Prop} {p0 : Int64} {p1 : Int32} (hQ : Q (some (.long (p0 * 32 + (p1 - 97 + 1).toInt64))) M L R) : Tm l y_Tokens_withLetter (0, 0, n) n [.long p0, .int p1] M L R Q := by
  refine Tm.of (by decide) (Nat.le_of_ble_eq_true rfl) ?_
  show Wp l y_Tokens_withLetter (0, 0, n) n 0 0 0 [(0, .long p0), (2, .int p1)] [] M L R Q
  refine g_lload_n (pc1 := 1) d_Tokens_withLetter_0 rfl 0 rfl ?_
  refine g_ldc2 (pc1 := 4) (v := 32) d_Tokens_withLetter_1 rfl co_Tokens_41 ?_
  refine g_lmul (pc1 := 5) d_Tokens_withLetter_4 rfl ?_
  refine g_iload_n (pc1 := 6) d_Tokens_withLetter_5 rfl 1 rfl ?_
  refine g_bipush (pc1 := 8) (v := 97) d_Tokens_withLetter_6 rfl (by decide) ?_
  refine g_isub (pc1 := 9) d_Tokens_withLetter_8 rfl ?_
  refine g_iconst (pc1 := 10) (v := 1) d_Tokens_withLetter_9 rfl (by decide) ?_
  refine g_iadd (pc1 := 11) d_Tokens_withLetter_10 rfl ?_
  refine g_i2l (pc1 := 12) d_Tokens_withLetter_11 rfl ?_
  refine g_ladd (pc1 := 13) d_Tokens_withLetter_12 rfl ?_
  refine g_lreturn rfl d_Tokens_withLetter_13 rfl ?_
  exact hQ
def kM_Past_init (M : gM) : gM := (kM_State_init 353 (kM_State_init 346 (kM_State_init 339 (kM_State_init 332 (kM_State_init 325 (kM_State_init 318 (kM_State_init 311 (kM_State_init 304 (kM_State_init 297 (kM_State_init 290 (kM_State_init 283 (kM_State_init 276 (kM_State_init 269 (kM_State_init 262 (kM_State_init 255 (kM_State_init 248 (kM_State_init 241 (kM_State_init 234 (kM_State_init 227 (kM_State_init 220 (kM_State_init 213 (kM_State_init 206 (kM_State_init 199 (kM_State_init 192 (kM_State_init 185 (kM_State_init 178 (kM_State_init 171 (kM_State_init 164 (kM_State_init 157 (kM_State_init 150 (kM_State_init 143 (kM_State_init 136 (kM_State_init 129 (kM_State_init 122 (kM_State_init 115 (kM_State_init 108 (kM_State_init 101 (kM_State_init 94 (kM_State_init 87 (kM_State_init 80 M))))))))))))))))))))))))))))))))))))))))
def kL_Past_init (L : gL) : gL := (kL_State_init 353 (kL_State_init 346 (kL_State_init 339 (kL_State_init 332 (kL_State_init 325 (kL_State_init 318 (kL_State_init 311 (kL_State_init 304 (kL_State_init 297 (kL_State_init 290 (kL_State_init 283 (kL_State_init 276 (kL_State_init 269 (kL_State_init 262 (kL_State_init 255 (kL_State_init 248 (kL_State_init 241 (kL_State_init 234 (kL_State_init 227 (kL_State_init 220 (kL_State_init 213 (kL_State_init 206 (kL_State_init 199 (kL_State_init 192 (kL_State_init 185 (kL_State_init 178 (kL_State_init 171 (kL_State_init 164 (kL_State_init 157 (kL_State_init 150 (kL_State_init 143 (kL_State_init 136 (kL_State_init 129 (kL_State_init 122 (kL_State_init 115 (kL_State_init 108 (kL_State_init 101 (kL_State_init 94 (kL_State_init 87 (kL_State_init 80 L))))))))))))))))))))))))))))))))))))))))
def kR_Past_init (R : gR) : gR := (uR (kR_State_init 353 (uR (kR_State_init 346 (uR (kR_State_init 339 (uR (kR_State_init 332 (uR (kR_State_init 325 (uR (kR_State_init 318 (uR (kR_State_init 311 (uR (kR_State_init 304 (uR (kR_State_init 297 (uR (kR_State_init 290 (uR (kR_State_init 283 (uR (kR_State_init 276 (uR (kR_State_init 269 (uR (kR_State_init 262 (uR (kR_State_init 255 (uR (kR_State_init 248 (uR (kR_State_init 241 (uR (kR_State_init 234 (uR (kR_State_init 227 (uR (kR_State_init 220 (uR (kR_State_init 213 (uR (kR_State_init 206 (uR (kR_State_init 199 (uR (kR_State_init 192 (uR (kR_State_init 185 (uR (kR_State_init 178 (uR (kR_State_init 171 (uR (kR_State_init 164 (uR (kR_State_init 157 (uR (kR_State_init 150 (uR (kR_State_init 143 (uR (kR_State_init 136 (uR (kR_State_init 129 (uR (kR_State_init 122 (uR (kR_State_init 115 (uR (kR_State_init 108 (uR (kR_State_init 101 (uR (kR_State_init 94 (uR (kR_State_init 87 (uR (kR_State_init 80 (uR R 78 0 (some 79))) 79 0 (some 80))) 79 1 (some 87))) 79 2 (some 94))) 79 3 (some 101))) 79 4 (some 108))) 79 5 (some 115))) 79 6 (some 122))) 79 7 (some 129))) 79 8 (some 136))) 79 9 (some 143))) 79 10 (some 150))) 79 11 (some 157))) 79 12 (some 164))) 79 13 (some 171))) 79 14 (some 178))) 79 15 (some 185))) 79 16 (some 192))) 79 17 (some 199))) 79 18 (some 206))) 79 19 (some 213))) 79 20 (some 220))) 79 21 (some 227))) 79 22 (some 234))) 79 23 (some 241))) 79 24 (some 248))) 79 25 (some 255))) 79 26 (some 262))) 79 27 (some 269))) 79 28 (some 276))) 79 29 (some 283))) 79 30 (some 290))) 79 31 (some 297))) 79 32 (some 304))) 79 33 (some 311))) 79 34 (some 318))) 79 35 (some 325))) 79 36 (some 332))) 79 37 (some 339))) 79 38 (some 346))) 79 39 (some 353))
set_option maxHeartbeats 4000000 in
set_option maxRecDepth 20000 in
theorem t0_Past_init {l : Launch} {M : gM} {L : gL} {R : gR} {Q : Option Value → gM → gL → gR → Prop} (hF : Fz 79 M L R) (hQ : ∀ (M' : gM) (L' : gL) (R' : gR), M' = kM_Past_init M → L' = kL_Past_init L → R' = kR_Past_init R → Fz 360 M' L' R' → Q none M' L' R') : Tm l y_Past_init (281, 1800, 360) 79 [.ref 78] M L R Q := by
  refine Tm.of (by decide) (Nat.le_of_ble_eq_true rfl) ?_
  show Wp l y_Past_init (281, 1800, 360) 79 0 0 0 [(0, .ref 78)] [] M L R Q
  refine g_aload_n (pc1 := 1) d_Past_init_0 rfl 0 rfl ?_
  refine g_objInit (pc1 := 4) d_Past_init_1 rfl ml_Past_3 mi_objectInit mc_objectInit (by decide) (Nat.le_of_ble_eq_true rfl) ?_
  refine g_aload_n (pc1 := 5) d_Past_init_4 rfl 0 rfl ?_
  refine g_bipush (pc1 := 7) (v := 40) d_Past_init_5 rfl (by decide) ?_
  refine g_newR (pc1 := 10) d_Past_init_7 rfl ck_Past_9 sh_79 (fun i => (hF _ (Nat.le_refl _) i).2.2) (by decide) (by decide) (by decide) (Nat.le_of_ble_eq_true rfl) (Nat.le_of_ble_eq_true rfl) ?_
  refine g_putF (pc1 := 13) (v := .ref 79) (M' := M) (R' := uR R 78 0 (some 79)) d_Past_init_10 rfl rfl ff_Past_11 (fun _ => po_7_0 _) sh_78 (by decide) (fun _ => fvl_R_self) (fun _ q h => fvl_R_ne q h) (fun _ _ _ h => ent_neR h) ?_
  refine Wp.topR (fun R56 eR56 => ?_)
  have q57 : R56 78 0 = some 79 := rdR_eq eR56
  refine g_iconst (pc1 := 14) (v := 0) d_Past_init_13 rfl (by decide) ?_
  refine g_istore_n (pc1 := 15) (lv' := [(0, .ref 78), (1, .int 0)]) d_Past_init_14 rfl rfl (by decide) [1, 0] rfl ?_
  refine g_iload_n (pc1 := 16) d_Past_init_15 rfl 1 rfl ?_
  refine g_aload_n (pc1 := 17) d_Past_init_16 rfl 0 rfl ?_
  refine g_getr (pc1 := 20) d_Past_init_17 rfl ⟨_, fo_Past_11⟩ sh_78 (by decide) q57 ?_
  refine g_alen (pc1 := 21) (v := 40) d_Past_init_20 rfl sh_79 (by decide) (by decide) (by decide) (by decide) ?_
  refine g_icmp_ge (pc1 := 24) (tgt := 43) d_Past_init_21 (by decide) rfl (fun h => absurd h (by decide)) (fun _ => ?_)
  refine g_aload_n (pc1 := 25) d_Past_init_24 rfl 0 rfl ?_
  refine g_getr (pc1 := 28) d_Past_init_25 rfl ⟨_, fo_Past_11⟩ sh_78 (by decide) q57 ?_
  refine g_iload_n (pc1 := 29) d_Past_init_28 rfl 1 rfl ?_
  refine g_new (pc1 := 32) (T := T_State) (ty := ty_State) d_Past_init_29 rfl rfl (fun w h => gtb_of (in_State w h).1 (in_State w h).2) tyk_State (by decide) ck_Past_9 cn_State cz_State (shSt_0 (by decide : 80 ∈ lSt)) (fun i => ((Fz.wR (Fz.up hF) (by decide) eR56) _ (Nat.le_refl _) i).1) (fun i => ((Fz.wR (Fz.up hF) (by decide) eR56) _ (Nat.le_refl _) i).2.2) (Nat.le_of_ble_eq_true rfl) (Nat.le_of_ble_eq_true rfl) ?_
  refine g_dup (pc1 := 33) d_Past_init_32 rfl rfl ?_
  refine g_callI (pc1 := 36) (E' := (6, 34, 87)) (As := []) (rest := [.ref 80, .int 0, .ref 79]) d_Past_init_33 rfl mo_Past_17 mi_State_init rfl rfl (by decide) rfl rfl (Nat.le_of_ble_eq_true rfl) ⟨Nat.le_of_ble_eq_true rfl, Nat.le_of_ble_eq_true rfl⟩ rfl ?_
  refine t0_State_init 80 (by decide : 80 ∈ lSt) (Fz.up (Fz.wR (Fz.up hF) (by decide) eR56)) (fun M58 L59 R60 eM58 eL59 eR60 F61 => ?_)
  dsimp only
  have q62 : R60 78 0 = some 79 := ((congrFun (congrFun eR60 78) 0).trans (kR_State_ne (by decide))).trans q57
  refine g_aast (pc1 := 37) (ci := 6) (r := ("CookedLaw$State", T_State, 10)) d_Past_init_36 rfl sh_79 (by decide) (vin_lit (x := 0) (by decide)) (shSt_0 (by decide : 80 ∈ lSt)) (by decide) rfl rfl ?_
  rw [show ((0 : Int32).toNatClampNeg) = 0 from by decide]
  refine Wp.topR (fun R63 eR63 => ?_)
  have q64 : R63 78 0 = some 79 := (rdR_ne eR63 (by decide)).trans q62
  refine g_iinc (pc1 := 40) (v := 1) (lv' := [(0, .ref 78), (1, .int 1)]) d_Past_init_37 rfl 1 rfl (by decide) (by decide) [1, 0] rfl ?_
  refine g_goto (tgt := 15) d_Past_init_40 (by decide) ?_
  refine g_iload_n (pc1 := 16) d_Past_init_15 rfl 1 rfl ?_
  refine g_aload_n (pc1 := 17) d_Past_init_16 rfl 0 rfl ?_
  refine g_getr (pc1 := 20) d_Past_init_17 rfl ⟨_, fo_Past_11⟩ sh_78 (by decide) q64 ?_
  refine g_alen (pc1 := 21) (v := 40) d_Past_init_20 rfl sh_79 (by decide) (by decide) (by decide) (by decide) ?_
  refine g_icmp_ge (pc1 := 24) (tgt := 43) d_Past_init_21 (by decide) rfl (fun h => absurd h (by decide)) (fun _ => ?_)
  refine g_aload_n (pc1 := 25) d_Past_init_24 rfl 0 rfl ?_
  refine g_getr (pc1 := 28) d_Past_init_25 rfl ⟨_, fo_Past_11⟩ sh_78 (by decide) q64 ?_
  refine g_iload_n (pc1 := 29) d_Past_init_28 rfl 1 rfl ?_
  refine g_new (pc1 := 32) (T := T_State) (ty := ty_State) d_Past_init_29 rfl rfl (fun w h => gtb_of (in_State w h).1 (in_State w h).2) tyk_State (by decide) ck_Past_9 cn_State cz_State (shSt_0 (by decide : 87 ∈ lSt)) (fun i => ((Fz.wR F61 (by decide) eR63) _ (Nat.le_refl _) i).1) (fun i => ((Fz.wR F61 (by decide) eR63) _ (Nat.le_refl _) i).2.2) (Nat.le_of_ble_eq_true rfl) (Nat.le_of_ble_eq_true rfl) ?_
  refine g_dup (pc1 := 33) d_Past_init_32 rfl rfl ?_
  refine g_callI (pc1 := 36) (E' := (6, 34, 94)) (As := []) (rest := [.ref 87, .int 1, .ref 79]) d_Past_init_33 rfl mo_Past_17 mi_State_init rfl rfl (by decide) rfl rfl (Nat.le_of_ble_eq_true rfl) ⟨Nat.le_of_ble_eq_true rfl, Nat.le_of_ble_eq_true rfl⟩ rfl ?_
  refine t0_State_init 87 (by decide : 87 ∈ lSt) (Fz.up (Fz.wR F61 (by decide) eR63)) (fun M65 L66 R67 eM65 eL66 eR67 F68 => ?_)
  dsimp only
  have q69 : R67 78 0 = some 79 := ((congrFun (congrFun eR67 78) 0).trans (kR_State_ne (by decide))).trans q64
  refine g_aast (pc1 := 37) (ci := 6) (r := ("CookedLaw$State", T_State, 10)) d_Past_init_36 rfl sh_79 (by decide) (vin_lit (x := 1) (by decide)) (shSt_0 (by decide : 87 ∈ lSt)) (by decide) rfl rfl ?_
  rw [show ((1 : Int32).toNatClampNeg) = 1 from by decide]
  refine Wp.topR (fun R70 eR70 => ?_)
  have q71 : R70 78 0 = some 79 := (rdR_ne eR70 (by decide)).trans q69
  refine g_iinc (pc1 := 40) (v := 2) (lv' := [(0, .ref 78), (1, .int 2)]) d_Past_init_37 rfl 1 rfl (by decide) (by decide) [1, 0] rfl ?_
  refine g_goto (tgt := 15) d_Past_init_40 (by decide) ?_
  refine g_iload_n (pc1 := 16) d_Past_init_15 rfl 1 rfl ?_
  refine g_aload_n (pc1 := 17) d_Past_init_16 rfl 0 rfl ?_
  refine g_getr (pc1 := 20) d_Past_init_17 rfl ⟨_, fo_Past_11⟩ sh_78 (by decide) q71 ?_
  refine g_alen (pc1 := 21) (v := 40) d_Past_init_20 rfl sh_79 (by decide) (by decide) (by decide) (by decide) ?_
  refine g_icmp_ge (pc1 := 24) (tgt := 43) d_Past_init_21 (by decide) rfl (fun h => absurd h (by decide)) (fun _ => ?_)
  refine g_aload_n (pc1 := 25) d_Past_init_24 rfl 0 rfl ?_
  refine g_getr (pc1 := 28) d_Past_init_25 rfl ⟨_, fo_Past_11⟩ sh_78 (by decide) q71 ?_
  refine g_iload_n (pc1 := 29) d_Past_init_28 rfl 1 rfl ?_
  refine g_new (pc1 := 32) (T := T_State) (ty := ty_State) d_Past_init_29 rfl rfl (fun w h => gtb_of (in_State w h).1 (in_State w h).2) tyk_State (by decide) ck_Past_9 cn_State cz_State (shSt_0 (by decide : 94 ∈ lSt)) (fun i => ((Fz.wR F68 (by decide) eR70) _ (Nat.le_refl _) i).1) (fun i => ((Fz.wR F68 (by decide) eR70) _ (Nat.le_refl _) i).2.2) (Nat.le_of_ble_eq_true rfl) (Nat.le_of_ble_eq_true rfl) ?_
  refine g_dup (pc1 := 33) d_Past_init_32 rfl rfl ?_
  refine g_callI (pc1 := 36) (E' := (6, 34, 101)) (As := []) (rest := [.ref 94, .int 2, .ref 79]) d_Past_init_33 rfl mo_Past_17 mi_State_init rfl rfl (by decide) rfl rfl (Nat.le_of_ble_eq_true rfl) ⟨Nat.le_of_ble_eq_true rfl, Nat.le_of_ble_eq_true rfl⟩ rfl ?_
  refine t0_State_init 94 (by decide : 94 ∈ lSt) (Fz.up (Fz.wR F68 (by decide) eR70)) (fun M72 L73 R74 eM72 eL73 eR74 F75 => ?_)
  dsimp only
  have q76 : R74 78 0 = some 79 := ((congrFun (congrFun eR74 78) 0).trans (kR_State_ne (by decide))).trans q71
  refine g_aast (pc1 := 37) (ci := 6) (r := ("CookedLaw$State", T_State, 10)) d_Past_init_36 rfl sh_79 (by decide) (vin_lit (x := 2) (by decide)) (shSt_0 (by decide : 94 ∈ lSt)) (by decide) rfl rfl ?_
  rw [show ((2 : Int32).toNatClampNeg) = 2 from by decide]
  refine Wp.topR (fun R77 eR77 => ?_)
  have q78 : R77 78 0 = some 79 := (rdR_ne eR77 (by decide)).trans q76
  refine g_iinc (pc1 := 40) (v := 3) (lv' := [(0, .ref 78), (1, .int 3)]) d_Past_init_37 rfl 1 rfl (by decide) (by decide) [1, 0] rfl ?_
  refine g_goto (tgt := 15) d_Past_init_40 (by decide) ?_
  refine g_iload_n (pc1 := 16) d_Past_init_15 rfl 1 rfl ?_
  refine g_aload_n (pc1 := 17) d_Past_init_16 rfl 0 rfl ?_
  refine g_getr (pc1 := 20) d_Past_init_17 rfl ⟨_, fo_Past_11⟩ sh_78 (by decide) q78 ?_
  refine g_alen (pc1 := 21) (v := 40) d_Past_init_20 rfl sh_79 (by decide) (by decide) (by decide) (by decide) ?_
  refine g_icmp_ge (pc1 := 24) (tgt := 43) d_Past_init_21 (by decide) rfl (fun h => absurd h (by decide)) (fun _ => ?_)
  refine g_aload_n (pc1 := 25) d_Past_init_24 rfl 0 rfl ?_
  refine g_getr (pc1 := 28) d_Past_init_25 rfl ⟨_, fo_Past_11⟩ sh_78 (by decide) q78 ?_
  refine g_iload_n (pc1 := 29) d_Past_init_28 rfl 1 rfl ?_
  refine g_new (pc1 := 32) (T := T_State) (ty := ty_State) d_Past_init_29 rfl rfl (fun w h => gtb_of (in_State w h).1 (in_State w h).2) tyk_State (by decide) ck_Past_9 cn_State cz_State (shSt_0 (by decide : 101 ∈ lSt)) (fun i => ((Fz.wR F75 (by decide) eR77) _ (Nat.le_refl _) i).1) (fun i => ((Fz.wR F75 (by decide) eR77) _ (Nat.le_refl _) i).2.2) (Nat.le_of_ble_eq_true rfl) (Nat.le_of_ble_eq_true rfl) ?_
  refine g_dup (pc1 := 33) d_Past_init_32 rfl rfl ?_
  refine g_callI (pc1 := 36) (E' := (6, 34, 108)) (As := []) (rest := [.ref 101, .int 3, .ref 79]) d_Past_init_33 rfl mo_Past_17 mi_State_init rfl rfl (by decide) rfl rfl (Nat.le_of_ble_eq_true rfl) ⟨Nat.le_of_ble_eq_true rfl, Nat.le_of_ble_eq_true rfl⟩ rfl ?_
  refine t0_State_init 101 (by decide : 101 ∈ lSt) (Fz.up (Fz.wR F75 (by decide) eR77)) (fun M79 L80 R81 eM79 eL80 eR81 F82 => ?_)
  dsimp only
  have q83 : R81 78 0 = some 79 := ((congrFun (congrFun eR81 78) 0).trans (kR_State_ne (by decide))).trans q78
  refine g_aast (pc1 := 37) (ci := 6) (r := ("CookedLaw$State", T_State, 10)) d_Past_init_36 rfl sh_79 (by decide) (vin_lit (x := 3) (by decide)) (shSt_0 (by decide : 101 ∈ lSt)) (by decide) rfl rfl ?_
  rw [show ((3 : Int32).toNatClampNeg) = 3 from by decide]
  refine Wp.topR (fun R84 eR84 => ?_)
  have q85 : R84 78 0 = some 79 := (rdR_ne eR84 (by decide)).trans q83
  refine g_iinc (pc1 := 40) (v := 4) (lv' := [(0, .ref 78), (1, .int 4)]) d_Past_init_37 rfl 1 rfl (by decide) (by decide) [1, 0] rfl ?_
  refine g_goto (tgt := 15) d_Past_init_40 (by decide) ?_
  refine g_iload_n (pc1 := 16) d_Past_init_15 rfl 1 rfl ?_
  refine g_aload_n (pc1 := 17) d_Past_init_16 rfl 0 rfl ?_
  refine g_getr (pc1 := 20) d_Past_init_17 rfl ⟨_, fo_Past_11⟩ sh_78 (by decide) q85 ?_
  refine g_alen (pc1 := 21) (v := 40) d_Past_init_20 rfl sh_79 (by decide) (by decide) (by decide) (by decide) ?_
  refine g_icmp_ge (pc1 := 24) (tgt := 43) d_Past_init_21 (by decide) rfl (fun h => absurd h (by decide)) (fun _ => ?_)
  refine g_aload_n (pc1 := 25) d_Past_init_24 rfl 0 rfl ?_
  refine g_getr (pc1 := 28) d_Past_init_25 rfl ⟨_, fo_Past_11⟩ sh_78 (by decide) q85 ?_
  refine g_iload_n (pc1 := 29) d_Past_init_28 rfl 1 rfl ?_
  refine g_new (pc1 := 32) (T := T_State) (ty := ty_State) d_Past_init_29 rfl rfl (fun w h => gtb_of (in_State w h).1 (in_State w h).2) tyk_State (by decide) ck_Past_9 cn_State cz_State (shSt_0 (by decide : 108 ∈ lSt)) (fun i => ((Fz.wR F82 (by decide) eR84) _ (Nat.le_refl _) i).1) (fun i => ((Fz.wR F82 (by decide) eR84) _ (Nat.le_refl _) i).2.2) (Nat.le_of_ble_eq_true rfl) (Nat.le_of_ble_eq_true rfl) ?_
  refine g_dup (pc1 := 33) d_Past_init_32 rfl rfl ?_
  refine g_callI (pc1 := 36) (E' := (6, 34, 115)) (As := []) (rest := [.ref 108, .int 4, .ref 79]) d_Past_init_33 rfl mo_Past_17 mi_State_init rfl rfl (by decide) rfl rfl (Nat.le_of_ble_eq_true rfl) ⟨Nat.le_of_ble_eq_true rfl, Nat.le_of_ble_eq_true rfl⟩ rfl ?_
  refine t0_State_init 108 (by decide : 108 ∈ lSt) (Fz.up (Fz.wR F82 (by decide) eR84)) (fun M86 L87 R88 eM86 eL87 eR88 F89 => ?_)
  dsimp only
  have q90 : R88 78 0 = some 79 := ((congrFun (congrFun eR88 78) 0).trans (kR_State_ne (by decide))).trans q85
  refine g_aast (pc1 := 37) (ci := 6) (r := ("CookedLaw$State", T_State, 10)) d_Past_init_36 rfl sh_79 (by decide) (vin_lit (x := 4) (by decide)) (shSt_0 (by decide : 108 ∈ lSt)) (by decide) rfl rfl ?_
  rw [show ((4 : Int32).toNatClampNeg) = 4 from by decide]
  refine Wp.topR (fun R91 eR91 => ?_)
  have q92 : R91 78 0 = some 79 := (rdR_ne eR91 (by decide)).trans q90
  refine g_iinc (pc1 := 40) (v := 5) (lv' := [(0, .ref 78), (1, .int 5)]) d_Past_init_37 rfl 1 rfl (by decide) (by decide) [1, 0] rfl ?_
  refine g_goto (tgt := 15) d_Past_init_40 (by decide) ?_
  refine g_iload_n (pc1 := 16) d_Past_init_15 rfl 1 rfl ?_
  refine g_aload_n (pc1 := 17) d_Past_init_16 rfl 0 rfl ?_
  refine g_getr (pc1 := 20) d_Past_init_17 rfl ⟨_, fo_Past_11⟩ sh_78 (by decide) q92 ?_
  refine g_alen (pc1 := 21) (v := 40) d_Past_init_20 rfl sh_79 (by decide) (by decide) (by decide) (by decide) ?_
  refine g_icmp_ge (pc1 := 24) (tgt := 43) d_Past_init_21 (by decide) rfl (fun h => absurd h (by decide)) (fun _ => ?_)
  refine g_aload_n (pc1 := 25) d_Past_init_24 rfl 0 rfl ?_
  refine g_getr (pc1 := 28) d_Past_init_25 rfl ⟨_, fo_Past_11⟩ sh_78 (by decide) q92 ?_
  refine g_iload_n (pc1 := 29) d_Past_init_28 rfl 1 rfl ?_
  refine g_new (pc1 := 32) (T := T_State) (ty := ty_State) d_Past_init_29 rfl rfl (fun w h => gtb_of (in_State w h).1 (in_State w h).2) tyk_State (by decide) ck_Past_9 cn_State cz_State (shSt_0 (by decide : 115 ∈ lSt)) (fun i => ((Fz.wR F89 (by decide) eR91) _ (Nat.le_refl _) i).1) (fun i => ((Fz.wR F89 (by decide) eR91) _ (Nat.le_refl _) i).2.2) (Nat.le_of_ble_eq_true rfl) (Nat.le_of_ble_eq_true rfl) ?_
  refine g_dup (pc1 := 33) d_Past_init_32 rfl rfl ?_
  refine g_callI (pc1 := 36) (E' := (6, 34, 122)) (As := []) (rest := [.ref 115, .int 5, .ref 79]) d_Past_init_33 rfl mo_Past_17 mi_State_init rfl rfl (by decide) rfl rfl (Nat.le_of_ble_eq_true rfl) ⟨Nat.le_of_ble_eq_true rfl, Nat.le_of_ble_eq_true rfl⟩ rfl ?_
  refine t0_State_init 115 (by decide : 115 ∈ lSt) (Fz.up (Fz.wR F89 (by decide) eR91)) (fun M93 L94 R95 eM93 eL94 eR95 F96 => ?_)
  dsimp only
  have q97 : R95 78 0 = some 79 := ((congrFun (congrFun eR95 78) 0).trans (kR_State_ne (by decide))).trans q92
  refine g_aast (pc1 := 37) (ci := 6) (r := ("CookedLaw$State", T_State, 10)) d_Past_init_36 rfl sh_79 (by decide) (vin_lit (x := 5) (by decide)) (shSt_0 (by decide : 115 ∈ lSt)) (by decide) rfl rfl ?_
  rw [show ((5 : Int32).toNatClampNeg) = 5 from by decide]
  refine Wp.topR (fun R98 eR98 => ?_)
  have q99 : R98 78 0 = some 79 := (rdR_ne eR98 (by decide)).trans q97
  refine g_iinc (pc1 := 40) (v := 6) (lv' := [(0, .ref 78), (1, .int 6)]) d_Past_init_37 rfl 1 rfl (by decide) (by decide) [1, 0] rfl ?_
  refine g_goto (tgt := 15) d_Past_init_40 (by decide) ?_
  refine g_iload_n (pc1 := 16) d_Past_init_15 rfl 1 rfl ?_
  refine g_aload_n (pc1 := 17) d_Past_init_16 rfl 0 rfl ?_
  refine g_getr (pc1 := 20) d_Past_init_17 rfl ⟨_, fo_Past_11⟩ sh_78 (by decide) q99 ?_
  refine g_alen (pc1 := 21) (v := 40) d_Past_init_20 rfl sh_79 (by decide) (by decide) (by decide) (by decide) ?_
  refine g_icmp_ge (pc1 := 24) (tgt := 43) d_Past_init_21 (by decide) rfl (fun h => absurd h (by decide)) (fun _ => ?_)
  refine g_aload_n (pc1 := 25) d_Past_init_24 rfl 0 rfl ?_
  refine g_getr (pc1 := 28) d_Past_init_25 rfl ⟨_, fo_Past_11⟩ sh_78 (by decide) q99 ?_
  refine g_iload_n (pc1 := 29) d_Past_init_28 rfl 1 rfl ?_
  refine g_new (pc1 := 32) (T := T_State) (ty := ty_State) d_Past_init_29 rfl rfl (fun w h => gtb_of (in_State w h).1 (in_State w h).2) tyk_State (by decide) ck_Past_9 cn_State cz_State (shSt_0 (by decide : 122 ∈ lSt)) (fun i => ((Fz.wR F96 (by decide) eR98) _ (Nat.le_refl _) i).1) (fun i => ((Fz.wR F96 (by decide) eR98) _ (Nat.le_refl _) i).2.2) (Nat.le_of_ble_eq_true rfl) (Nat.le_of_ble_eq_true rfl) ?_
  refine g_dup (pc1 := 33) d_Past_init_32 rfl rfl ?_
  refine g_callI (pc1 := 36) (E' := (6, 34, 129)) (As := []) (rest := [.ref 122, .int 6, .ref 79]) d_Past_init_33 rfl mo_Past_17 mi_State_init rfl rfl (by decide) rfl rfl (Nat.le_of_ble_eq_true rfl) ⟨Nat.le_of_ble_eq_true rfl, Nat.le_of_ble_eq_true rfl⟩ rfl ?_
  refine t0_State_init 122 (by decide : 122 ∈ lSt) (Fz.up (Fz.wR F96 (by decide) eR98)) (fun M100 L101 R102 eM100 eL101 eR102 F103 => ?_)
  dsimp only
  have q104 : R102 78 0 = some 79 := ((congrFun (congrFun eR102 78) 0).trans (kR_State_ne (by decide))).trans q99
  refine g_aast (pc1 := 37) (ci := 6) (r := ("CookedLaw$State", T_State, 10)) d_Past_init_36 rfl sh_79 (by decide) (vin_lit (x := 6) (by decide)) (shSt_0 (by decide : 122 ∈ lSt)) (by decide) rfl rfl ?_
  rw [show ((6 : Int32).toNatClampNeg) = 6 from by decide]
  refine Wp.topR (fun R105 eR105 => ?_)
  have q106 : R105 78 0 = some 79 := (rdR_ne eR105 (by decide)).trans q104
  refine g_iinc (pc1 := 40) (v := 7) (lv' := [(0, .ref 78), (1, .int 7)]) d_Past_init_37 rfl 1 rfl (by decide) (by decide) [1, 0] rfl ?_
  refine g_goto (tgt := 15) d_Past_init_40 (by decide) ?_
  refine g_iload_n (pc1 := 16) d_Past_init_15 rfl 1 rfl ?_
  refine g_aload_n (pc1 := 17) d_Past_init_16 rfl 0 rfl ?_
  refine g_getr (pc1 := 20) d_Past_init_17 rfl ⟨_, fo_Past_11⟩ sh_78 (by decide) q106 ?_
  refine g_alen (pc1 := 21) (v := 40) d_Past_init_20 rfl sh_79 (by decide) (by decide) (by decide) (by decide) ?_
  refine g_icmp_ge (pc1 := 24) (tgt := 43) d_Past_init_21 (by decide) rfl (fun h => absurd h (by decide)) (fun _ => ?_)
  refine g_aload_n (pc1 := 25) d_Past_init_24 rfl 0 rfl ?_
  refine g_getr (pc1 := 28) d_Past_init_25 rfl ⟨_, fo_Past_11⟩ sh_78 (by decide) q106 ?_
  refine g_iload_n (pc1 := 29) d_Past_init_28 rfl 1 rfl ?_
  refine g_new (pc1 := 32) (T := T_State) (ty := ty_State) d_Past_init_29 rfl rfl (fun w h => gtb_of (in_State w h).1 (in_State w h).2) tyk_State (by decide) ck_Past_9 cn_State cz_State (shSt_0 (by decide : 129 ∈ lSt)) (fun i => ((Fz.wR F103 (by decide) eR105) _ (Nat.le_refl _) i).1) (fun i => ((Fz.wR F103 (by decide) eR105) _ (Nat.le_refl _) i).2.2) (Nat.le_of_ble_eq_true rfl) (Nat.le_of_ble_eq_true rfl) ?_
  refine g_dup (pc1 := 33) d_Past_init_32 rfl rfl ?_
  refine g_callI (pc1 := 36) (E' := (6, 34, 136)) (As := []) (rest := [.ref 129, .int 7, .ref 79]) d_Past_init_33 rfl mo_Past_17 mi_State_init rfl rfl (by decide) rfl rfl (Nat.le_of_ble_eq_true rfl) ⟨Nat.le_of_ble_eq_true rfl, Nat.le_of_ble_eq_true rfl⟩ rfl ?_
  refine t0_State_init 129 (by decide : 129 ∈ lSt) (Fz.up (Fz.wR F103 (by decide) eR105)) (fun M107 L108 R109 eM107 eL108 eR109 F110 => ?_)
  dsimp only
  have q111 : R109 78 0 = some 79 := ((congrFun (congrFun eR109 78) 0).trans (kR_State_ne (by decide))).trans q106
  refine g_aast (pc1 := 37) (ci := 6) (r := ("CookedLaw$State", T_State, 10)) d_Past_init_36 rfl sh_79 (by decide) (vin_lit (x := 7) (by decide)) (shSt_0 (by decide : 129 ∈ lSt)) (by decide) rfl rfl ?_
  rw [show ((7 : Int32).toNatClampNeg) = 7 from by decide]
  refine Wp.topR (fun R112 eR112 => ?_)
  have q113 : R112 78 0 = some 79 := (rdR_ne eR112 (by decide)).trans q111
  refine g_iinc (pc1 := 40) (v := 8) (lv' := [(0, .ref 78), (1, .int 8)]) d_Past_init_37 rfl 1 rfl (by decide) (by decide) [1, 0] rfl ?_
  refine g_goto (tgt := 15) d_Past_init_40 (by decide) ?_
  refine g_iload_n (pc1 := 16) d_Past_init_15 rfl 1 rfl ?_
  refine g_aload_n (pc1 := 17) d_Past_init_16 rfl 0 rfl ?_
  refine g_getr (pc1 := 20) d_Past_init_17 rfl ⟨_, fo_Past_11⟩ sh_78 (by decide) q113 ?_
  refine g_alen (pc1 := 21) (v := 40) d_Past_init_20 rfl sh_79 (by decide) (by decide) (by decide) (by decide) ?_
  refine g_icmp_ge (pc1 := 24) (tgt := 43) d_Past_init_21 (by decide) rfl (fun h => absurd h (by decide)) (fun _ => ?_)
  refine g_aload_n (pc1 := 25) d_Past_init_24 rfl 0 rfl ?_
  refine g_getr (pc1 := 28) d_Past_init_25 rfl ⟨_, fo_Past_11⟩ sh_78 (by decide) q113 ?_
  refine g_iload_n (pc1 := 29) d_Past_init_28 rfl 1 rfl ?_
  refine g_new (pc1 := 32) (T := T_State) (ty := ty_State) d_Past_init_29 rfl rfl (fun w h => gtb_of (in_State w h).1 (in_State w h).2) tyk_State (by decide) ck_Past_9 cn_State cz_State (shSt_0 (by decide : 136 ∈ lSt)) (fun i => ((Fz.wR F110 (by decide) eR112) _ (Nat.le_refl _) i).1) (fun i => ((Fz.wR F110 (by decide) eR112) _ (Nat.le_refl _) i).2.2) (Nat.le_of_ble_eq_true rfl) (Nat.le_of_ble_eq_true rfl) ?_
  refine g_dup (pc1 := 33) d_Past_init_32 rfl rfl ?_
  refine g_callI (pc1 := 36) (E' := (6, 34, 143)) (As := []) (rest := [.ref 136, .int 8, .ref 79]) d_Past_init_33 rfl mo_Past_17 mi_State_init rfl rfl (by decide) rfl rfl (Nat.le_of_ble_eq_true rfl) ⟨Nat.le_of_ble_eq_true rfl, Nat.le_of_ble_eq_true rfl⟩ rfl ?_
  refine t0_State_init 136 (by decide : 136 ∈ lSt) (Fz.up (Fz.wR F110 (by decide) eR112)) (fun M114 L115 R116 eM114 eL115 eR116 F117 => ?_)
  dsimp only
  have q118 : R116 78 0 = some 79 := ((congrFun (congrFun eR116 78) 0).trans (kR_State_ne (by decide))).trans q113
  refine g_aast (pc1 := 37) (ci := 6) (r := ("CookedLaw$State", T_State, 10)) d_Past_init_36 rfl sh_79 (by decide) (vin_lit (x := 8) (by decide)) (shSt_0 (by decide : 136 ∈ lSt)) (by decide) rfl rfl ?_
  rw [show ((8 : Int32).toNatClampNeg) = 8 from by decide]
  refine Wp.topR (fun R119 eR119 => ?_)
  have q120 : R119 78 0 = some 79 := (rdR_ne eR119 (by decide)).trans q118
  refine g_iinc (pc1 := 40) (v := 9) (lv' := [(0, .ref 78), (1, .int 9)]) d_Past_init_37 rfl 1 rfl (by decide) (by decide) [1, 0] rfl ?_
  refine g_goto (tgt := 15) d_Past_init_40 (by decide) ?_
  refine g_iload_n (pc1 := 16) d_Past_init_15 rfl 1 rfl ?_
  refine g_aload_n (pc1 := 17) d_Past_init_16 rfl 0 rfl ?_
  refine g_getr (pc1 := 20) d_Past_init_17 rfl ⟨_, fo_Past_11⟩ sh_78 (by decide) q120 ?_
  refine g_alen (pc1 := 21) (v := 40) d_Past_init_20 rfl sh_79 (by decide) (by decide) (by decide) (by decide) ?_
  refine g_icmp_ge (pc1 := 24) (tgt := 43) d_Past_init_21 (by decide) rfl (fun h => absurd h (by decide)) (fun _ => ?_)
  refine g_aload_n (pc1 := 25) d_Past_init_24 rfl 0 rfl ?_
  refine g_getr (pc1 := 28) d_Past_init_25 rfl ⟨_, fo_Past_11⟩ sh_78 (by decide) q120 ?_
  refine g_iload_n (pc1 := 29) d_Past_init_28 rfl 1 rfl ?_
  refine g_new (pc1 := 32) (T := T_State) (ty := ty_State) d_Past_init_29 rfl rfl (fun w h => gtb_of (in_State w h).1 (in_State w h).2) tyk_State (by decide) ck_Past_9 cn_State cz_State (shSt_0 (by decide : 143 ∈ lSt)) (fun i => ((Fz.wR F117 (by decide) eR119) _ (Nat.le_refl _) i).1) (fun i => ((Fz.wR F117 (by decide) eR119) _ (Nat.le_refl _) i).2.2) (Nat.le_of_ble_eq_true rfl) (Nat.le_of_ble_eq_true rfl) ?_
  refine g_dup (pc1 := 33) d_Past_init_32 rfl rfl ?_
  refine g_callI (pc1 := 36) (E' := (6, 34, 150)) (As := []) (rest := [.ref 143, .int 9, .ref 79]) d_Past_init_33 rfl mo_Past_17 mi_State_init rfl rfl (by decide) rfl rfl (Nat.le_of_ble_eq_true rfl) ⟨Nat.le_of_ble_eq_true rfl, Nat.le_of_ble_eq_true rfl⟩ rfl ?_
  refine t0_State_init 143 (by decide : 143 ∈ lSt) (Fz.up (Fz.wR F117 (by decide) eR119)) (fun M121 L122 R123 eM121 eL122 eR123 F124 => ?_)
  dsimp only
  have q125 : R123 78 0 = some 79 := ((congrFun (congrFun eR123 78) 0).trans (kR_State_ne (by decide))).trans q120
  refine g_aast (pc1 := 37) (ci := 6) (r := ("CookedLaw$State", T_State, 10)) d_Past_init_36 rfl sh_79 (by decide) (vin_lit (x := 9) (by decide)) (shSt_0 (by decide : 143 ∈ lSt)) (by decide) rfl rfl ?_
  rw [show ((9 : Int32).toNatClampNeg) = 9 from by decide]
  refine Wp.topR (fun R126 eR126 => ?_)
  have q127 : R126 78 0 = some 79 := (rdR_ne eR126 (by decide)).trans q125
  refine g_iinc (pc1 := 40) (v := 10) (lv' := [(0, .ref 78), (1, .int 10)]) d_Past_init_37 rfl 1 rfl (by decide) (by decide) [1, 0] rfl ?_
  refine g_goto (tgt := 15) d_Past_init_40 (by decide) ?_
  refine g_iload_n (pc1 := 16) d_Past_init_15 rfl 1 rfl ?_
  refine g_aload_n (pc1 := 17) d_Past_init_16 rfl 0 rfl ?_
  refine g_getr (pc1 := 20) d_Past_init_17 rfl ⟨_, fo_Past_11⟩ sh_78 (by decide) q127 ?_
  refine g_alen (pc1 := 21) (v := 40) d_Past_init_20 rfl sh_79 (by decide) (by decide) (by decide) (by decide) ?_
  refine g_icmp_ge (pc1 := 24) (tgt := 43) d_Past_init_21 (by decide) rfl (fun h => absurd h (by decide)) (fun _ => ?_)
  refine g_aload_n (pc1 := 25) d_Past_init_24 rfl 0 rfl ?_
  refine g_getr (pc1 := 28) d_Past_init_25 rfl ⟨_, fo_Past_11⟩ sh_78 (by decide) q127 ?_
  refine g_iload_n (pc1 := 29) d_Past_init_28 rfl 1 rfl ?_
  refine g_new (pc1 := 32) (T := T_State) (ty := ty_State) d_Past_init_29 rfl rfl (fun w h => gtb_of (in_State w h).1 (in_State w h).2) tyk_State (by decide) ck_Past_9 cn_State cz_State (shSt_0 (by decide : 150 ∈ lSt)) (fun i => ((Fz.wR F124 (by decide) eR126) _ (Nat.le_refl _) i).1) (fun i => ((Fz.wR F124 (by decide) eR126) _ (Nat.le_refl _) i).2.2) (Nat.le_of_ble_eq_true rfl) (Nat.le_of_ble_eq_true rfl) ?_
  refine g_dup (pc1 := 33) d_Past_init_32 rfl rfl ?_
  refine g_callI (pc1 := 36) (E' := (6, 34, 157)) (As := []) (rest := [.ref 150, .int 10, .ref 79]) d_Past_init_33 rfl mo_Past_17 mi_State_init rfl rfl (by decide) rfl rfl (Nat.le_of_ble_eq_true rfl) ⟨Nat.le_of_ble_eq_true rfl, Nat.le_of_ble_eq_true rfl⟩ rfl ?_
  refine t0_State_init 150 (by decide : 150 ∈ lSt) (Fz.up (Fz.wR F124 (by decide) eR126)) (fun M128 L129 R130 eM128 eL129 eR130 F131 => ?_)
  dsimp only
  have q132 : R130 78 0 = some 79 := ((congrFun (congrFun eR130 78) 0).trans (kR_State_ne (by decide))).trans q127
  refine g_aast (pc1 := 37) (ci := 6) (r := ("CookedLaw$State", T_State, 10)) d_Past_init_36 rfl sh_79 (by decide) (vin_lit (x := 10) (by decide)) (shSt_0 (by decide : 150 ∈ lSt)) (by decide) rfl rfl ?_
  rw [show ((10 : Int32).toNatClampNeg) = 10 from by decide]
  refine Wp.topR (fun R133 eR133 => ?_)
  have q134 : R133 78 0 = some 79 := (rdR_ne eR133 (by decide)).trans q132
  refine g_iinc (pc1 := 40) (v := 11) (lv' := [(0, .ref 78), (1, .int 11)]) d_Past_init_37 rfl 1 rfl (by decide) (by decide) [1, 0] rfl ?_
  refine g_goto (tgt := 15) d_Past_init_40 (by decide) ?_
  refine g_iload_n (pc1 := 16) d_Past_init_15 rfl 1 rfl ?_
  refine g_aload_n (pc1 := 17) d_Past_init_16 rfl 0 rfl ?_
  refine g_getr (pc1 := 20) d_Past_init_17 rfl ⟨_, fo_Past_11⟩ sh_78 (by decide) q134 ?_
  refine g_alen (pc1 := 21) (v := 40) d_Past_init_20 rfl sh_79 (by decide) (by decide) (by decide) (by decide) ?_
  refine g_icmp_ge (pc1 := 24) (tgt := 43) d_Past_init_21 (by decide) rfl (fun h => absurd h (by decide)) (fun _ => ?_)
  refine g_aload_n (pc1 := 25) d_Past_init_24 rfl 0 rfl ?_
  refine g_getr (pc1 := 28) d_Past_init_25 rfl ⟨_, fo_Past_11⟩ sh_78 (by decide) q134 ?_
  refine g_iload_n (pc1 := 29) d_Past_init_28 rfl 1 rfl ?_
  refine g_new (pc1 := 32) (T := T_State) (ty := ty_State) d_Past_init_29 rfl rfl (fun w h => gtb_of (in_State w h).1 (in_State w h).2) tyk_State (by decide) ck_Past_9 cn_State cz_State (shSt_0 (by decide : 157 ∈ lSt)) (fun i => ((Fz.wR F131 (by decide) eR133) _ (Nat.le_refl _) i).1) (fun i => ((Fz.wR F131 (by decide) eR133) _ (Nat.le_refl _) i).2.2) (Nat.le_of_ble_eq_true rfl) (Nat.le_of_ble_eq_true rfl) ?_
  refine g_dup (pc1 := 33) d_Past_init_32 rfl rfl ?_
  refine g_callI (pc1 := 36) (E' := (6, 34, 164)) (As := []) (rest := [.ref 157, .int 11, .ref 79]) d_Past_init_33 rfl mo_Past_17 mi_State_init rfl rfl (by decide) rfl rfl (Nat.le_of_ble_eq_true rfl) ⟨Nat.le_of_ble_eq_true rfl, Nat.le_of_ble_eq_true rfl⟩ rfl ?_
  refine t0_State_init 157 (by decide : 157 ∈ lSt) (Fz.up (Fz.wR F131 (by decide) eR133)) (fun M135 L136 R137 eM135 eL136 eR137 F138 => ?_)
  dsimp only
  have q139 : R137 78 0 = some 79 := ((congrFun (congrFun eR137 78) 0).trans (kR_State_ne (by decide))).trans q134
  refine g_aast (pc1 := 37) (ci := 6) (r := ("CookedLaw$State", T_State, 10)) d_Past_init_36 rfl sh_79 (by decide) (vin_lit (x := 11) (by decide)) (shSt_0 (by decide : 157 ∈ lSt)) (by decide) rfl rfl ?_
  rw [show ((11 : Int32).toNatClampNeg) = 11 from by decide]
  refine Wp.topR (fun R140 eR140 => ?_)
  have q141 : R140 78 0 = some 79 := (rdR_ne eR140 (by decide)).trans q139
  refine g_iinc (pc1 := 40) (v := 12) (lv' := [(0, .ref 78), (1, .int 12)]) d_Past_init_37 rfl 1 rfl (by decide) (by decide) [1, 0] rfl ?_
  refine g_goto (tgt := 15) d_Past_init_40 (by decide) ?_
  refine g_iload_n (pc1 := 16) d_Past_init_15 rfl 1 rfl ?_
  refine g_aload_n (pc1 := 17) d_Past_init_16 rfl 0 rfl ?_
  refine g_getr (pc1 := 20) d_Past_init_17 rfl ⟨_, fo_Past_11⟩ sh_78 (by decide) q141 ?_
  refine g_alen (pc1 := 21) (v := 40) d_Past_init_20 rfl sh_79 (by decide) (by decide) (by decide) (by decide) ?_
  refine g_icmp_ge (pc1 := 24) (tgt := 43) d_Past_init_21 (by decide) rfl (fun h => absurd h (by decide)) (fun _ => ?_)
  refine g_aload_n (pc1 := 25) d_Past_init_24 rfl 0 rfl ?_
  refine g_getr (pc1 := 28) d_Past_init_25 rfl ⟨_, fo_Past_11⟩ sh_78 (by decide) q141 ?_
  refine g_iload_n (pc1 := 29) d_Past_init_28 rfl 1 rfl ?_
  refine g_new (pc1 := 32) (T := T_State) (ty := ty_State) d_Past_init_29 rfl rfl (fun w h => gtb_of (in_State w h).1 (in_State w h).2) tyk_State (by decide) ck_Past_9 cn_State cz_State (shSt_0 (by decide : 164 ∈ lSt)) (fun i => ((Fz.wR F138 (by decide) eR140) _ (Nat.le_refl _) i).1) (fun i => ((Fz.wR F138 (by decide) eR140) _ (Nat.le_refl _) i).2.2) (Nat.le_of_ble_eq_true rfl) (Nat.le_of_ble_eq_true rfl) ?_
  refine g_dup (pc1 := 33) d_Past_init_32 rfl rfl ?_
  refine g_callI (pc1 := 36) (E' := (6, 34, 171)) (As := []) (rest := [.ref 164, .int 12, .ref 79]) d_Past_init_33 rfl mo_Past_17 mi_State_init rfl rfl (by decide) rfl rfl (Nat.le_of_ble_eq_true rfl) ⟨Nat.le_of_ble_eq_true rfl, Nat.le_of_ble_eq_true rfl⟩ rfl ?_
  refine t0_State_init 164 (by decide : 164 ∈ lSt) (Fz.up (Fz.wR F138 (by decide) eR140)) (fun M142 L143 R144 eM142 eL143 eR144 F145 => ?_)
  dsimp only
  have q146 : R144 78 0 = some 79 := ((congrFun (congrFun eR144 78) 0).trans (kR_State_ne (by decide))).trans q141
  refine g_aast (pc1 := 37) (ci := 6) (r := ("CookedLaw$State", T_State, 10)) d_Past_init_36 rfl sh_79 (by decide) (vin_lit (x := 12) (by decide)) (shSt_0 (by decide : 164 ∈ lSt)) (by decide) rfl rfl ?_
  rw [show ((12 : Int32).toNatClampNeg) = 12 from by decide]
  refine Wp.topR (fun R147 eR147 => ?_)
  have q148 : R147 78 0 = some 79 := (rdR_ne eR147 (by decide)).trans q146
  refine g_iinc (pc1 := 40) (v := 13) (lv' := [(0, .ref 78), (1, .int 13)]) d_Past_init_37 rfl 1 rfl (by decide) (by decide) [1, 0] rfl ?_
  refine g_goto (tgt := 15) d_Past_init_40 (by decide) ?_
  refine g_iload_n (pc1 := 16) d_Past_init_15 rfl 1 rfl ?_
  refine g_aload_n (pc1 := 17) d_Past_init_16 rfl 0 rfl ?_
  refine g_getr (pc1 := 20) d_Past_init_17 rfl ⟨_, fo_Past_11⟩ sh_78 (by decide) q148 ?_
  refine g_alen (pc1 := 21) (v := 40) d_Past_init_20 rfl sh_79 (by decide) (by decide) (by decide) (by decide) ?_
  refine g_icmp_ge (pc1 := 24) (tgt := 43) d_Past_init_21 (by decide) rfl (fun h => absurd h (by decide)) (fun _ => ?_)
  refine g_aload_n (pc1 := 25) d_Past_init_24 rfl 0 rfl ?_
  refine g_getr (pc1 := 28) d_Past_init_25 rfl ⟨_, fo_Past_11⟩ sh_78 (by decide) q148 ?_
  refine g_iload_n (pc1 := 29) d_Past_init_28 rfl 1 rfl ?_
  refine g_new (pc1 := 32) (T := T_State) (ty := ty_State) d_Past_init_29 rfl rfl (fun w h => gtb_of (in_State w h).1 (in_State w h).2) tyk_State (by decide) ck_Past_9 cn_State cz_State (shSt_0 (by decide : 171 ∈ lSt)) (fun i => ((Fz.wR F145 (by decide) eR147) _ (Nat.le_refl _) i).1) (fun i => ((Fz.wR F145 (by decide) eR147) _ (Nat.le_refl _) i).2.2) (Nat.le_of_ble_eq_true rfl) (Nat.le_of_ble_eq_true rfl) ?_
  refine g_dup (pc1 := 33) d_Past_init_32 rfl rfl ?_
  refine g_callI (pc1 := 36) (E' := (6, 34, 178)) (As := []) (rest := [.ref 171, .int 13, .ref 79]) d_Past_init_33 rfl mo_Past_17 mi_State_init rfl rfl (by decide) rfl rfl (Nat.le_of_ble_eq_true rfl) ⟨Nat.le_of_ble_eq_true rfl, Nat.le_of_ble_eq_true rfl⟩ rfl ?_
  refine t0_State_init 171 (by decide : 171 ∈ lSt) (Fz.up (Fz.wR F145 (by decide) eR147)) (fun M149 L150 R151 eM149 eL150 eR151 F152 => ?_)
  dsimp only
  have q153 : R151 78 0 = some 79 := ((congrFun (congrFun eR151 78) 0).trans (kR_State_ne (by decide))).trans q148
  refine g_aast (pc1 := 37) (ci := 6) (r := ("CookedLaw$State", T_State, 10)) d_Past_init_36 rfl sh_79 (by decide) (vin_lit (x := 13) (by decide)) (shSt_0 (by decide : 171 ∈ lSt)) (by decide) rfl rfl ?_
  rw [show ((13 : Int32).toNatClampNeg) = 13 from by decide]
  refine Wp.topR (fun R154 eR154 => ?_)
  have q155 : R154 78 0 = some 79 := (rdR_ne eR154 (by decide)).trans q153
  refine g_iinc (pc1 := 40) (v := 14) (lv' := [(0, .ref 78), (1, .int 14)]) d_Past_init_37 rfl 1 rfl (by decide) (by decide) [1, 0] rfl ?_
  refine g_goto (tgt := 15) d_Past_init_40 (by decide) ?_
  refine g_iload_n (pc1 := 16) d_Past_init_15 rfl 1 rfl ?_
  refine g_aload_n (pc1 := 17) d_Past_init_16 rfl 0 rfl ?_
  refine g_getr (pc1 := 20) d_Past_init_17 rfl ⟨_, fo_Past_11⟩ sh_78 (by decide) q155 ?_
  refine g_alen (pc1 := 21) (v := 40) d_Past_init_20 rfl sh_79 (by decide) (by decide) (by decide) (by decide) ?_
  refine g_icmp_ge (pc1 := 24) (tgt := 43) d_Past_init_21 (by decide) rfl (fun h => absurd h (by decide)) (fun _ => ?_)
  refine g_aload_n (pc1 := 25) d_Past_init_24 rfl 0 rfl ?_
  refine g_getr (pc1 := 28) d_Past_init_25 rfl ⟨_, fo_Past_11⟩ sh_78 (by decide) q155 ?_
  refine g_iload_n (pc1 := 29) d_Past_init_28 rfl 1 rfl ?_
  refine g_new (pc1 := 32) (T := T_State) (ty := ty_State) d_Past_init_29 rfl rfl (fun w h => gtb_of (in_State w h).1 (in_State w h).2) tyk_State (by decide) ck_Past_9 cn_State cz_State (shSt_0 (by decide : 178 ∈ lSt)) (fun i => ((Fz.wR F152 (by decide) eR154) _ (Nat.le_refl _) i).1) (fun i => ((Fz.wR F152 (by decide) eR154) _ (Nat.le_refl _) i).2.2) (Nat.le_of_ble_eq_true rfl) (Nat.le_of_ble_eq_true rfl) ?_
  refine g_dup (pc1 := 33) d_Past_init_32 rfl rfl ?_
  refine g_callI (pc1 := 36) (E' := (6, 34, 185)) (As := []) (rest := [.ref 178, .int 14, .ref 79]) d_Past_init_33 rfl mo_Past_17 mi_State_init rfl rfl (by decide) rfl rfl (Nat.le_of_ble_eq_true rfl) ⟨Nat.le_of_ble_eq_true rfl, Nat.le_of_ble_eq_true rfl⟩ rfl ?_
  refine t0_State_init 178 (by decide : 178 ∈ lSt) (Fz.up (Fz.wR F152 (by decide) eR154)) (fun M156 L157 R158 eM156 eL157 eR158 F159 => ?_)
  dsimp only
  have q160 : R158 78 0 = some 79 := ((congrFun (congrFun eR158 78) 0).trans (kR_State_ne (by decide))).trans q155
  refine g_aast (pc1 := 37) (ci := 6) (r := ("CookedLaw$State", T_State, 10)) d_Past_init_36 rfl sh_79 (by decide) (vin_lit (x := 14) (by decide)) (shSt_0 (by decide : 178 ∈ lSt)) (by decide) rfl rfl ?_
  rw [show ((14 : Int32).toNatClampNeg) = 14 from by decide]
  refine Wp.topR (fun R161 eR161 => ?_)
  have q162 : R161 78 0 = some 79 := (rdR_ne eR161 (by decide)).trans q160
  refine g_iinc (pc1 := 40) (v := 15) (lv' := [(0, .ref 78), (1, .int 15)]) d_Past_init_37 rfl 1 rfl (by decide) (by decide) [1, 0] rfl ?_
  refine g_goto (tgt := 15) d_Past_init_40 (by decide) ?_
  refine g_iload_n (pc1 := 16) d_Past_init_15 rfl 1 rfl ?_
  refine g_aload_n (pc1 := 17) d_Past_init_16 rfl 0 rfl ?_
  refine g_getr (pc1 := 20) d_Past_init_17 rfl ⟨_, fo_Past_11⟩ sh_78 (by decide) q162 ?_
  refine g_alen (pc1 := 21) (v := 40) d_Past_init_20 rfl sh_79 (by decide) (by decide) (by decide) (by decide) ?_
  refine g_icmp_ge (pc1 := 24) (tgt := 43) d_Past_init_21 (by decide) rfl (fun h => absurd h (by decide)) (fun _ => ?_)
  refine g_aload_n (pc1 := 25) d_Past_init_24 rfl 0 rfl ?_
  refine g_getr (pc1 := 28) d_Past_init_25 rfl ⟨_, fo_Past_11⟩ sh_78 (by decide) q162 ?_
  refine g_iload_n (pc1 := 29) d_Past_init_28 rfl 1 rfl ?_
  refine g_new (pc1 := 32) (T := T_State) (ty := ty_State) d_Past_init_29 rfl rfl (fun w h => gtb_of (in_State w h).1 (in_State w h).2) tyk_State (by decide) ck_Past_9 cn_State cz_State (shSt_0 (by decide : 185 ∈ lSt)) (fun i => ((Fz.wR F159 (by decide) eR161) _ (Nat.le_refl _) i).1) (fun i => ((Fz.wR F159 (by decide) eR161) _ (Nat.le_refl _) i).2.2) (Nat.le_of_ble_eq_true rfl) (Nat.le_of_ble_eq_true rfl) ?_
  refine g_dup (pc1 := 33) d_Past_init_32 rfl rfl ?_
  refine g_callI (pc1 := 36) (E' := (6, 34, 192)) (As := []) (rest := [.ref 185, .int 15, .ref 79]) d_Past_init_33 rfl mo_Past_17 mi_State_init rfl rfl (by decide) rfl rfl (Nat.le_of_ble_eq_true rfl) ⟨Nat.le_of_ble_eq_true rfl, Nat.le_of_ble_eq_true rfl⟩ rfl ?_
  refine t0_State_init 185 (by decide : 185 ∈ lSt) (Fz.up (Fz.wR F159 (by decide) eR161)) (fun M163 L164 R165 eM163 eL164 eR165 F166 => ?_)
  dsimp only
  have q167 : R165 78 0 = some 79 := ((congrFun (congrFun eR165 78) 0).trans (kR_State_ne (by decide))).trans q162
  refine g_aast (pc1 := 37) (ci := 6) (r := ("CookedLaw$State", T_State, 10)) d_Past_init_36 rfl sh_79 (by decide) (vin_lit (x := 15) (by decide)) (shSt_0 (by decide : 185 ∈ lSt)) (by decide) rfl rfl ?_
  rw [show ((15 : Int32).toNatClampNeg) = 15 from by decide]
  refine Wp.topR (fun R168 eR168 => ?_)
  have q169 : R168 78 0 = some 79 := (rdR_ne eR168 (by decide)).trans q167
  refine g_iinc (pc1 := 40) (v := 16) (lv' := [(0, .ref 78), (1, .int 16)]) d_Past_init_37 rfl 1 rfl (by decide) (by decide) [1, 0] rfl ?_
  refine g_goto (tgt := 15) d_Past_init_40 (by decide) ?_
  refine g_iload_n (pc1 := 16) d_Past_init_15 rfl 1 rfl ?_
  refine g_aload_n (pc1 := 17) d_Past_init_16 rfl 0 rfl ?_
  refine g_getr (pc1 := 20) d_Past_init_17 rfl ⟨_, fo_Past_11⟩ sh_78 (by decide) q169 ?_
  refine g_alen (pc1 := 21) (v := 40) d_Past_init_20 rfl sh_79 (by decide) (by decide) (by decide) (by decide) ?_
  refine g_icmp_ge (pc1 := 24) (tgt := 43) d_Past_init_21 (by decide) rfl (fun h => absurd h (by decide)) (fun _ => ?_)
  refine g_aload_n (pc1 := 25) d_Past_init_24 rfl 0 rfl ?_
  refine g_getr (pc1 := 28) d_Past_init_25 rfl ⟨_, fo_Past_11⟩ sh_78 (by decide) q169 ?_
  refine g_iload_n (pc1 := 29) d_Past_init_28 rfl 1 rfl ?_
  refine g_new (pc1 := 32) (T := T_State) (ty := ty_State) d_Past_init_29 rfl rfl (fun w h => gtb_of (in_State w h).1 (in_State w h).2) tyk_State (by decide) ck_Past_9 cn_State cz_State (shSt_0 (by decide : 192 ∈ lSt)) (fun i => ((Fz.wR F166 (by decide) eR168) _ (Nat.le_refl _) i).1) (fun i => ((Fz.wR F166 (by decide) eR168) _ (Nat.le_refl _) i).2.2) (Nat.le_of_ble_eq_true rfl) (Nat.le_of_ble_eq_true rfl) ?_
  refine g_dup (pc1 := 33) d_Past_init_32 rfl rfl ?_
  refine g_callI (pc1 := 36) (E' := (6, 34, 199)) (As := []) (rest := [.ref 192, .int 16, .ref 79]) d_Past_init_33 rfl mo_Past_17 mi_State_init rfl rfl (by decide) rfl rfl (Nat.le_of_ble_eq_true rfl) ⟨Nat.le_of_ble_eq_true rfl, Nat.le_of_ble_eq_true rfl⟩ rfl ?_
  refine t0_State_init 192 (by decide : 192 ∈ lSt) (Fz.up (Fz.wR F166 (by decide) eR168)) (fun M170 L171 R172 eM170 eL171 eR172 F173 => ?_)
  dsimp only
  have q174 : R172 78 0 = some 79 := ((congrFun (congrFun eR172 78) 0).trans (kR_State_ne (by decide))).trans q169
  refine g_aast (pc1 := 37) (ci := 6) (r := ("CookedLaw$State", T_State, 10)) d_Past_init_36 rfl sh_79 (by decide) (vin_lit (x := 16) (by decide)) (shSt_0 (by decide : 192 ∈ lSt)) (by decide) rfl rfl ?_
  rw [show ((16 : Int32).toNatClampNeg) = 16 from by decide]
  refine Wp.topR (fun R175 eR175 => ?_)
  have q176 : R175 78 0 = some 79 := (rdR_ne eR175 (by decide)).trans q174
  refine g_iinc (pc1 := 40) (v := 17) (lv' := [(0, .ref 78), (1, .int 17)]) d_Past_init_37 rfl 1 rfl (by decide) (by decide) [1, 0] rfl ?_
  refine g_goto (tgt := 15) d_Past_init_40 (by decide) ?_
  refine g_iload_n (pc1 := 16) d_Past_init_15 rfl 1 rfl ?_
  refine g_aload_n (pc1 := 17) d_Past_init_16 rfl 0 rfl ?_
  refine g_getr (pc1 := 20) d_Past_init_17 rfl ⟨_, fo_Past_11⟩ sh_78 (by decide) q176 ?_
  refine g_alen (pc1 := 21) (v := 40) d_Past_init_20 rfl sh_79 (by decide) (by decide) (by decide) (by decide) ?_
  refine g_icmp_ge (pc1 := 24) (tgt := 43) d_Past_init_21 (by decide) rfl (fun h => absurd h (by decide)) (fun _ => ?_)
  refine g_aload_n (pc1 := 25) d_Past_init_24 rfl 0 rfl ?_
  refine g_getr (pc1 := 28) d_Past_init_25 rfl ⟨_, fo_Past_11⟩ sh_78 (by decide) q176 ?_
  refine g_iload_n (pc1 := 29) d_Past_init_28 rfl 1 rfl ?_
  refine g_new (pc1 := 32) (T := T_State) (ty := ty_State) d_Past_init_29 rfl rfl (fun w h => gtb_of (in_State w h).1 (in_State w h).2) tyk_State (by decide) ck_Past_9 cn_State cz_State (shSt_0 (by decide : 199 ∈ lSt)) (fun i => ((Fz.wR F173 (by decide) eR175) _ (Nat.le_refl _) i).1) (fun i => ((Fz.wR F173 (by decide) eR175) _ (Nat.le_refl _) i).2.2) (Nat.le_of_ble_eq_true rfl) (Nat.le_of_ble_eq_true rfl) ?_
  refine g_dup (pc1 := 33) d_Past_init_32 rfl rfl ?_
  refine g_callI (pc1 := 36) (E' := (6, 34, 206)) (As := []) (rest := [.ref 199, .int 17, .ref 79]) d_Past_init_33 rfl mo_Past_17 mi_State_init rfl rfl (by decide) rfl rfl (Nat.le_of_ble_eq_true rfl) ⟨Nat.le_of_ble_eq_true rfl, Nat.le_of_ble_eq_true rfl⟩ rfl ?_
  refine t0_State_init 199 (by decide : 199 ∈ lSt) (Fz.up (Fz.wR F173 (by decide) eR175)) (fun M177 L178 R179 eM177 eL178 eR179 F180 => ?_)
  dsimp only
  have q181 : R179 78 0 = some 79 := ((congrFun (congrFun eR179 78) 0).trans (kR_State_ne (by decide))).trans q176
  refine g_aast (pc1 := 37) (ci := 6) (r := ("CookedLaw$State", T_State, 10)) d_Past_init_36 rfl sh_79 (by decide) (vin_lit (x := 17) (by decide)) (shSt_0 (by decide : 199 ∈ lSt)) (by decide) rfl rfl ?_
  rw [show ((17 : Int32).toNatClampNeg) = 17 from by decide]
  refine Wp.topR (fun R182 eR182 => ?_)
  have q183 : R182 78 0 = some 79 := (rdR_ne eR182 (by decide)).trans q181
  refine g_iinc (pc1 := 40) (v := 18) (lv' := [(0, .ref 78), (1, .int 18)]) d_Past_init_37 rfl 1 rfl (by decide) (by decide) [1, 0] rfl ?_
  refine g_goto (tgt := 15) d_Past_init_40 (by decide) ?_
  refine g_iload_n (pc1 := 16) d_Past_init_15 rfl 1 rfl ?_
  refine g_aload_n (pc1 := 17) d_Past_init_16 rfl 0 rfl ?_
  refine g_getr (pc1 := 20) d_Past_init_17 rfl ⟨_, fo_Past_11⟩ sh_78 (by decide) q183 ?_
  refine g_alen (pc1 := 21) (v := 40) d_Past_init_20 rfl sh_79 (by decide) (by decide) (by decide) (by decide) ?_
  refine g_icmp_ge (pc1 := 24) (tgt := 43) d_Past_init_21 (by decide) rfl (fun h => absurd h (by decide)) (fun _ => ?_)
  refine g_aload_n (pc1 := 25) d_Past_init_24 rfl 0 rfl ?_
  refine g_getr (pc1 := 28) d_Past_init_25 rfl ⟨_, fo_Past_11⟩ sh_78 (by decide) q183 ?_
  refine g_iload_n (pc1 := 29) d_Past_init_28 rfl 1 rfl ?_
  refine g_new (pc1 := 32) (T := T_State) (ty := ty_State) d_Past_init_29 rfl rfl (fun w h => gtb_of (in_State w h).1 (in_State w h).2) tyk_State (by decide) ck_Past_9 cn_State cz_State (shSt_0 (by decide : 206 ∈ lSt)) (fun i => ((Fz.wR F180 (by decide) eR182) _ (Nat.le_refl _) i).1) (fun i => ((Fz.wR F180 (by decide) eR182) _ (Nat.le_refl _) i).2.2) (Nat.le_of_ble_eq_true rfl) (Nat.le_of_ble_eq_true rfl) ?_
  refine g_dup (pc1 := 33) d_Past_init_32 rfl rfl ?_
  refine g_callI (pc1 := 36) (E' := (6, 34, 213)) (As := []) (rest := [.ref 206, .int 18, .ref 79]) d_Past_init_33 rfl mo_Past_17 mi_State_init rfl rfl (by decide) rfl rfl (Nat.le_of_ble_eq_true rfl) ⟨Nat.le_of_ble_eq_true rfl, Nat.le_of_ble_eq_true rfl⟩ rfl ?_
  refine t0_State_init 206 (by decide : 206 ∈ lSt) (Fz.up (Fz.wR F180 (by decide) eR182)) (fun M184 L185 R186 eM184 eL185 eR186 F187 => ?_)
  dsimp only
  have q188 : R186 78 0 = some 79 := ((congrFun (congrFun eR186 78) 0).trans (kR_State_ne (by decide))).trans q183
  refine g_aast (pc1 := 37) (ci := 6) (r := ("CookedLaw$State", T_State, 10)) d_Past_init_36 rfl sh_79 (by decide) (vin_lit (x := 18) (by decide)) (shSt_0 (by decide : 206 ∈ lSt)) (by decide) rfl rfl ?_
  rw [show ((18 : Int32).toNatClampNeg) = 18 from by decide]
  refine Wp.topR (fun R189 eR189 => ?_)
  have q190 : R189 78 0 = some 79 := (rdR_ne eR189 (by decide)).trans q188
  refine g_iinc (pc1 := 40) (v := 19) (lv' := [(0, .ref 78), (1, .int 19)]) d_Past_init_37 rfl 1 rfl (by decide) (by decide) [1, 0] rfl ?_
  refine g_goto (tgt := 15) d_Past_init_40 (by decide) ?_
  refine g_iload_n (pc1 := 16) d_Past_init_15 rfl 1 rfl ?_
  refine g_aload_n (pc1 := 17) d_Past_init_16 rfl 0 rfl ?_
  refine g_getr (pc1 := 20) d_Past_init_17 rfl ⟨_, fo_Past_11⟩ sh_78 (by decide) q190 ?_
  refine g_alen (pc1 := 21) (v := 40) d_Past_init_20 rfl sh_79 (by decide) (by decide) (by decide) (by decide) ?_
  refine g_icmp_ge (pc1 := 24) (tgt := 43) d_Past_init_21 (by decide) rfl (fun h => absurd h (by decide)) (fun _ => ?_)
  refine g_aload_n (pc1 := 25) d_Past_init_24 rfl 0 rfl ?_
  refine g_getr (pc1 := 28) d_Past_init_25 rfl ⟨_, fo_Past_11⟩ sh_78 (by decide) q190 ?_
  refine g_iload_n (pc1 := 29) d_Past_init_28 rfl 1 rfl ?_
  refine g_new (pc1 := 32) (T := T_State) (ty := ty_State) d_Past_init_29 rfl rfl (fun w h => gtb_of (in_State w h).1 (in_State w h).2) tyk_State (by decide) ck_Past_9 cn_State cz_State (shSt_0 (by decide : 213 ∈ lSt)) (fun i => ((Fz.wR F187 (by decide) eR189) _ (Nat.le_refl _) i).1) (fun i => ((Fz.wR F187 (by decide) eR189) _ (Nat.le_refl _) i).2.2) (Nat.le_of_ble_eq_true rfl) (Nat.le_of_ble_eq_true rfl) ?_
  refine g_dup (pc1 := 33) d_Past_init_32 rfl rfl ?_
  refine g_callI (pc1 := 36) (E' := (6, 34, 220)) (As := []) (rest := [.ref 213, .int 19, .ref 79]) d_Past_init_33 rfl mo_Past_17 mi_State_init rfl rfl (by decide) rfl rfl (Nat.le_of_ble_eq_true rfl) ⟨Nat.le_of_ble_eq_true rfl, Nat.le_of_ble_eq_true rfl⟩ rfl ?_
  refine t0_State_init 213 (by decide : 213 ∈ lSt) (Fz.up (Fz.wR F187 (by decide) eR189)) (fun M191 L192 R193 eM191 eL192 eR193 F194 => ?_)
  dsimp only
  have q195 : R193 78 0 = some 79 := ((congrFun (congrFun eR193 78) 0).trans (kR_State_ne (by decide))).trans q190
  refine g_aast (pc1 := 37) (ci := 6) (r := ("CookedLaw$State", T_State, 10)) d_Past_init_36 rfl sh_79 (by decide) (vin_lit (x := 19) (by decide)) (shSt_0 (by decide : 213 ∈ lSt)) (by decide) rfl rfl ?_
  rw [show ((19 : Int32).toNatClampNeg) = 19 from by decide]
  refine Wp.topR (fun R196 eR196 => ?_)
  have q197 : R196 78 0 = some 79 := (rdR_ne eR196 (by decide)).trans q195
  refine g_iinc (pc1 := 40) (v := 20) (lv' := [(0, .ref 78), (1, .int 20)]) d_Past_init_37 rfl 1 rfl (by decide) (by decide) [1, 0] rfl ?_
  refine g_goto (tgt := 15) d_Past_init_40 (by decide) ?_
  refine g_iload_n (pc1 := 16) d_Past_init_15 rfl 1 rfl ?_
  refine g_aload_n (pc1 := 17) d_Past_init_16 rfl 0 rfl ?_
  refine g_getr (pc1 := 20) d_Past_init_17 rfl ⟨_, fo_Past_11⟩ sh_78 (by decide) q197 ?_
  refine g_alen (pc1 := 21) (v := 40) d_Past_init_20 rfl sh_79 (by decide) (by decide) (by decide) (by decide) ?_
  refine g_icmp_ge (pc1 := 24) (tgt := 43) d_Past_init_21 (by decide) rfl (fun h => absurd h (by decide)) (fun _ => ?_)
  refine g_aload_n (pc1 := 25) d_Past_init_24 rfl 0 rfl ?_
  refine g_getr (pc1 := 28) d_Past_init_25 rfl ⟨_, fo_Past_11⟩ sh_78 (by decide) q197 ?_
  refine g_iload_n (pc1 := 29) d_Past_init_28 rfl 1 rfl ?_
  refine g_new (pc1 := 32) (T := T_State) (ty := ty_State) d_Past_init_29 rfl rfl (fun w h => gtb_of (in_State w h).1 (in_State w h).2) tyk_State (by decide) ck_Past_9 cn_State cz_State (shSt_0 (by decide : 220 ∈ lSt)) (fun i => ((Fz.wR F194 (by decide) eR196) _ (Nat.le_refl _) i).1) (fun i => ((Fz.wR F194 (by decide) eR196) _ (Nat.le_refl _) i).2.2) (Nat.le_of_ble_eq_true rfl) (Nat.le_of_ble_eq_true rfl) ?_
  refine g_dup (pc1 := 33) d_Past_init_32 rfl rfl ?_
  refine g_callI (pc1 := 36) (E' := (6, 34, 227)) (As := []) (rest := [.ref 220, .int 20, .ref 79]) d_Past_init_33 rfl mo_Past_17 mi_State_init rfl rfl (by decide) rfl rfl (Nat.le_of_ble_eq_true rfl) ⟨Nat.le_of_ble_eq_true rfl, Nat.le_of_ble_eq_true rfl⟩ rfl ?_
  refine t0_State_init 220 (by decide : 220 ∈ lSt) (Fz.up (Fz.wR F194 (by decide) eR196)) (fun M198 L199 R200 eM198 eL199 eR200 F201 => ?_)
  dsimp only
  have q202 : R200 78 0 = some 79 := ((congrFun (congrFun eR200 78) 0).trans (kR_State_ne (by decide))).trans q197
  refine g_aast (pc1 := 37) (ci := 6) (r := ("CookedLaw$State", T_State, 10)) d_Past_init_36 rfl sh_79 (by decide) (vin_lit (x := 20) (by decide)) (shSt_0 (by decide : 220 ∈ lSt)) (by decide) rfl rfl ?_
  rw [show ((20 : Int32).toNatClampNeg) = 20 from by decide]
  refine Wp.topR (fun R203 eR203 => ?_)
  have q204 : R203 78 0 = some 79 := (rdR_ne eR203 (by decide)).trans q202
  refine g_iinc (pc1 := 40) (v := 21) (lv' := [(0, .ref 78), (1, .int 21)]) d_Past_init_37 rfl 1 rfl (by decide) (by decide) [1, 0] rfl ?_
  refine g_goto (tgt := 15) d_Past_init_40 (by decide) ?_
  refine g_iload_n (pc1 := 16) d_Past_init_15 rfl 1 rfl ?_
  refine g_aload_n (pc1 := 17) d_Past_init_16 rfl 0 rfl ?_
  refine g_getr (pc1 := 20) d_Past_init_17 rfl ⟨_, fo_Past_11⟩ sh_78 (by decide) q204 ?_
  refine g_alen (pc1 := 21) (v := 40) d_Past_init_20 rfl sh_79 (by decide) (by decide) (by decide) (by decide) ?_
  refine g_icmp_ge (pc1 := 24) (tgt := 43) d_Past_init_21 (by decide) rfl (fun h => absurd h (by decide)) (fun _ => ?_)
  refine g_aload_n (pc1 := 25) d_Past_init_24 rfl 0 rfl ?_
  refine g_getr (pc1 := 28) d_Past_init_25 rfl ⟨_, fo_Past_11⟩ sh_78 (by decide) q204 ?_
  refine g_iload_n (pc1 := 29) d_Past_init_28 rfl 1 rfl ?_
  refine g_new (pc1 := 32) (T := T_State) (ty := ty_State) d_Past_init_29 rfl rfl (fun w h => gtb_of (in_State w h).1 (in_State w h).2) tyk_State (by decide) ck_Past_9 cn_State cz_State (shSt_0 (by decide : 227 ∈ lSt)) (fun i => ((Fz.wR F201 (by decide) eR203) _ (Nat.le_refl _) i).1) (fun i => ((Fz.wR F201 (by decide) eR203) _ (Nat.le_refl _) i).2.2) (Nat.le_of_ble_eq_true rfl) (Nat.le_of_ble_eq_true rfl) ?_
  refine g_dup (pc1 := 33) d_Past_init_32 rfl rfl ?_
  refine g_callI (pc1 := 36) (E' := (6, 34, 234)) (As := []) (rest := [.ref 227, .int 21, .ref 79]) d_Past_init_33 rfl mo_Past_17 mi_State_init rfl rfl (by decide) rfl rfl (Nat.le_of_ble_eq_true rfl) ⟨Nat.le_of_ble_eq_true rfl, Nat.le_of_ble_eq_true rfl⟩ rfl ?_
  refine t0_State_init 227 (by decide : 227 ∈ lSt) (Fz.up (Fz.wR F201 (by decide) eR203)) (fun M205 L206 R207 eM205 eL206 eR207 F208 => ?_)
  dsimp only
  have q209 : R207 78 0 = some 79 := ((congrFun (congrFun eR207 78) 0).trans (kR_State_ne (by decide))).trans q204
  refine g_aast (pc1 := 37) (ci := 6) (r := ("CookedLaw$State", T_State, 10)) d_Past_init_36 rfl sh_79 (by decide) (vin_lit (x := 21) (by decide)) (shSt_0 (by decide : 227 ∈ lSt)) (by decide) rfl rfl ?_
  rw [show ((21 : Int32).toNatClampNeg) = 21 from by decide]
  refine Wp.topR (fun R210 eR210 => ?_)
  have q211 : R210 78 0 = some 79 := (rdR_ne eR210 (by decide)).trans q209
  refine g_iinc (pc1 := 40) (v := 22) (lv' := [(0, .ref 78), (1, .int 22)]) d_Past_init_37 rfl 1 rfl (by decide) (by decide) [1, 0] rfl ?_
  refine g_goto (tgt := 15) d_Past_init_40 (by decide) ?_
  refine g_iload_n (pc1 := 16) d_Past_init_15 rfl 1 rfl ?_
  refine g_aload_n (pc1 := 17) d_Past_init_16 rfl 0 rfl ?_
  refine g_getr (pc1 := 20) d_Past_init_17 rfl ⟨_, fo_Past_11⟩ sh_78 (by decide) q211 ?_
  refine g_alen (pc1 := 21) (v := 40) d_Past_init_20 rfl sh_79 (by decide) (by decide) (by decide) (by decide) ?_
  refine g_icmp_ge (pc1 := 24) (tgt := 43) d_Past_init_21 (by decide) rfl (fun h => absurd h (by decide)) (fun _ => ?_)
  refine g_aload_n (pc1 := 25) d_Past_init_24 rfl 0 rfl ?_
  refine g_getr (pc1 := 28) d_Past_init_25 rfl ⟨_, fo_Past_11⟩ sh_78 (by decide) q211 ?_
  refine g_iload_n (pc1 := 29) d_Past_init_28 rfl 1 rfl ?_
  refine g_new (pc1 := 32) (T := T_State) (ty := ty_State) d_Past_init_29 rfl rfl (fun w h => gtb_of (in_State w h).1 (in_State w h).2) tyk_State (by decide) ck_Past_9 cn_State cz_State (shSt_0 (by decide : 234 ∈ lSt)) (fun i => ((Fz.wR F208 (by decide) eR210) _ (Nat.le_refl _) i).1) (fun i => ((Fz.wR F208 (by decide) eR210) _ (Nat.le_refl _) i).2.2) (Nat.le_of_ble_eq_true rfl) (Nat.le_of_ble_eq_true rfl) ?_
  refine g_dup (pc1 := 33) d_Past_init_32 rfl rfl ?_
  refine g_callI (pc1 := 36) (E' := (6, 34, 241)) (As := []) (rest := [.ref 234, .int 22, .ref 79]) d_Past_init_33 rfl mo_Past_17 mi_State_init rfl rfl (by decide) rfl rfl (Nat.le_of_ble_eq_true rfl) ⟨Nat.le_of_ble_eq_true rfl, Nat.le_of_ble_eq_true rfl⟩ rfl ?_
  refine t0_State_init 234 (by decide : 234 ∈ lSt) (Fz.up (Fz.wR F208 (by decide) eR210)) (fun M212 L213 R214 eM212 eL213 eR214 F215 => ?_)
  dsimp only
  have q216 : R214 78 0 = some 79 := ((congrFun (congrFun eR214 78) 0).trans (kR_State_ne (by decide))).trans q211
  refine g_aast (pc1 := 37) (ci := 6) (r := ("CookedLaw$State", T_State, 10)) d_Past_init_36 rfl sh_79 (by decide) (vin_lit (x := 22) (by decide)) (shSt_0 (by decide : 234 ∈ lSt)) (by decide) rfl rfl ?_
  rw [show ((22 : Int32).toNatClampNeg) = 22 from by decide]
  refine Wp.topR (fun R217 eR217 => ?_)
  have q218 : R217 78 0 = some 79 := (rdR_ne eR217 (by decide)).trans q216
  refine g_iinc (pc1 := 40) (v := 23) (lv' := [(0, .ref 78), (1, .int 23)]) d_Past_init_37 rfl 1 rfl (by decide) (by decide) [1, 0] rfl ?_
  refine g_goto (tgt := 15) d_Past_init_40 (by decide) ?_
  refine g_iload_n (pc1 := 16) d_Past_init_15 rfl 1 rfl ?_
  refine g_aload_n (pc1 := 17) d_Past_init_16 rfl 0 rfl ?_
  refine g_getr (pc1 := 20) d_Past_init_17 rfl ⟨_, fo_Past_11⟩ sh_78 (by decide) q218 ?_
  refine g_alen (pc1 := 21) (v := 40) d_Past_init_20 rfl sh_79 (by decide) (by decide) (by decide) (by decide) ?_
  refine g_icmp_ge (pc1 := 24) (tgt := 43) d_Past_init_21 (by decide) rfl (fun h => absurd h (by decide)) (fun _ => ?_)
  refine g_aload_n (pc1 := 25) d_Past_init_24 rfl 0 rfl ?_
  refine g_getr (pc1 := 28) d_Past_init_25 rfl ⟨_, fo_Past_11⟩ sh_78 (by decide) q218 ?_
  refine g_iload_n (pc1 := 29) d_Past_init_28 rfl 1 rfl ?_
  refine g_new (pc1 := 32) (T := T_State) (ty := ty_State) d_Past_init_29 rfl rfl (fun w h => gtb_of (in_State w h).1 (in_State w h).2) tyk_State (by decide) ck_Past_9 cn_State cz_State (shSt_0 (by decide : 241 ∈ lSt)) (fun i => ((Fz.wR F215 (by decide) eR217) _ (Nat.le_refl _) i).1) (fun i => ((Fz.wR F215 (by decide) eR217) _ (Nat.le_refl _) i).2.2) (Nat.le_of_ble_eq_true rfl) (Nat.le_of_ble_eq_true rfl) ?_
  refine g_dup (pc1 := 33) d_Past_init_32 rfl rfl ?_
  refine g_callI (pc1 := 36) (E' := (6, 34, 248)) (As := []) (rest := [.ref 241, .int 23, .ref 79]) d_Past_init_33 rfl mo_Past_17 mi_State_init rfl rfl (by decide) rfl rfl (Nat.le_of_ble_eq_true rfl) ⟨Nat.le_of_ble_eq_true rfl, Nat.le_of_ble_eq_true rfl⟩ rfl ?_
  refine t0_State_init 241 (by decide : 241 ∈ lSt) (Fz.up (Fz.wR F215 (by decide) eR217)) (fun M219 L220 R221 eM219 eL220 eR221 F222 => ?_)
  dsimp only
  have q223 : R221 78 0 = some 79 := ((congrFun (congrFun eR221 78) 0).trans (kR_State_ne (by decide))).trans q218
  refine g_aast (pc1 := 37) (ci := 6) (r := ("CookedLaw$State", T_State, 10)) d_Past_init_36 rfl sh_79 (by decide) (vin_lit (x := 23) (by decide)) (shSt_0 (by decide : 241 ∈ lSt)) (by decide) rfl rfl ?_
  rw [show ((23 : Int32).toNatClampNeg) = 23 from by decide]
  refine Wp.topR (fun R224 eR224 => ?_)
  have q225 : R224 78 0 = some 79 := (rdR_ne eR224 (by decide)).trans q223
  refine g_iinc (pc1 := 40) (v := 24) (lv' := [(0, .ref 78), (1, .int 24)]) d_Past_init_37 rfl 1 rfl (by decide) (by decide) [1, 0] rfl ?_
  refine g_goto (tgt := 15) d_Past_init_40 (by decide) ?_
  refine g_iload_n (pc1 := 16) d_Past_init_15 rfl 1 rfl ?_
  refine g_aload_n (pc1 := 17) d_Past_init_16 rfl 0 rfl ?_
  refine g_getr (pc1 := 20) d_Past_init_17 rfl ⟨_, fo_Past_11⟩ sh_78 (by decide) q225 ?_
  refine g_alen (pc1 := 21) (v := 40) d_Past_init_20 rfl sh_79 (by decide) (by decide) (by decide) (by decide) ?_
  refine g_icmp_ge (pc1 := 24) (tgt := 43) d_Past_init_21 (by decide) rfl (fun h => absurd h (by decide)) (fun _ => ?_)
  refine g_aload_n (pc1 := 25) d_Past_init_24 rfl 0 rfl ?_
  refine g_getr (pc1 := 28) d_Past_init_25 rfl ⟨_, fo_Past_11⟩ sh_78 (by decide) q225 ?_
  refine g_iload_n (pc1 := 29) d_Past_init_28 rfl 1 rfl ?_
  refine g_new (pc1 := 32) (T := T_State) (ty := ty_State) d_Past_init_29 rfl rfl (fun w h => gtb_of (in_State w h).1 (in_State w h).2) tyk_State (by decide) ck_Past_9 cn_State cz_State (shSt_0 (by decide : 248 ∈ lSt)) (fun i => ((Fz.wR F222 (by decide) eR224) _ (Nat.le_refl _) i).1) (fun i => ((Fz.wR F222 (by decide) eR224) _ (Nat.le_refl _) i).2.2) (Nat.le_of_ble_eq_true rfl) (Nat.le_of_ble_eq_true rfl) ?_
  refine g_dup (pc1 := 33) d_Past_init_32 rfl rfl ?_
  refine g_callI (pc1 := 36) (E' := (6, 34, 255)) (As := []) (rest := [.ref 248, .int 24, .ref 79]) d_Past_init_33 rfl mo_Past_17 mi_State_init rfl rfl (by decide) rfl rfl (Nat.le_of_ble_eq_true rfl) ⟨Nat.le_of_ble_eq_true rfl, Nat.le_of_ble_eq_true rfl⟩ rfl ?_
  refine t0_State_init 248 (by decide : 248 ∈ lSt) (Fz.up (Fz.wR F222 (by decide) eR224)) (fun M226 L227 R228 eM226 eL227 eR228 F229 => ?_)
  dsimp only
  have q230 : R228 78 0 = some 79 := ((congrFun (congrFun eR228 78) 0).trans (kR_State_ne (by decide))).trans q225
  refine g_aast (pc1 := 37) (ci := 6) (r := ("CookedLaw$State", T_State, 10)) d_Past_init_36 rfl sh_79 (by decide) (vin_lit (x := 24) (by decide)) (shSt_0 (by decide : 248 ∈ lSt)) (by decide) rfl rfl ?_
  rw [show ((24 : Int32).toNatClampNeg) = 24 from by decide]
  refine Wp.topR (fun R231 eR231 => ?_)
  have q232 : R231 78 0 = some 79 := (rdR_ne eR231 (by decide)).trans q230
  refine g_iinc (pc1 := 40) (v := 25) (lv' := [(0, .ref 78), (1, .int 25)]) d_Past_init_37 rfl 1 rfl (by decide) (by decide) [1, 0] rfl ?_
  refine g_goto (tgt := 15) d_Past_init_40 (by decide) ?_
  refine g_iload_n (pc1 := 16) d_Past_init_15 rfl 1 rfl ?_
  refine g_aload_n (pc1 := 17) d_Past_init_16 rfl 0 rfl ?_
  refine g_getr (pc1 := 20) d_Past_init_17 rfl ⟨_, fo_Past_11⟩ sh_78 (by decide) q232 ?_
  refine g_alen (pc1 := 21) (v := 40) d_Past_init_20 rfl sh_79 (by decide) (by decide) (by decide) (by decide) ?_
  refine g_icmp_ge (pc1 := 24) (tgt := 43) d_Past_init_21 (by decide) rfl (fun h => absurd h (by decide)) (fun _ => ?_)
  refine g_aload_n (pc1 := 25) d_Past_init_24 rfl 0 rfl ?_
  refine g_getr (pc1 := 28) d_Past_init_25 rfl ⟨_, fo_Past_11⟩ sh_78 (by decide) q232 ?_
  refine g_iload_n (pc1 := 29) d_Past_init_28 rfl 1 rfl ?_
  refine g_new (pc1 := 32) (T := T_State) (ty := ty_State) d_Past_init_29 rfl rfl (fun w h => gtb_of (in_State w h).1 (in_State w h).2) tyk_State (by decide) ck_Past_9 cn_State cz_State (shSt_0 (by decide : 255 ∈ lSt)) (fun i => ((Fz.wR F229 (by decide) eR231) _ (Nat.le_refl _) i).1) (fun i => ((Fz.wR F229 (by decide) eR231) _ (Nat.le_refl _) i).2.2) (Nat.le_of_ble_eq_true rfl) (Nat.le_of_ble_eq_true rfl) ?_
  refine g_dup (pc1 := 33) d_Past_init_32 rfl rfl ?_
  refine g_callI (pc1 := 36) (E' := (6, 34, 262)) (As := []) (rest := [.ref 255, .int 25, .ref 79]) d_Past_init_33 rfl mo_Past_17 mi_State_init rfl rfl (by decide) rfl rfl (Nat.le_of_ble_eq_true rfl) ⟨Nat.le_of_ble_eq_true rfl, Nat.le_of_ble_eq_true rfl⟩ rfl ?_
  refine t0_State_init 255 (by decide : 255 ∈ lSt) (Fz.up (Fz.wR F229 (by decide) eR231)) (fun M233 L234 R235 eM233 eL234 eR235 F236 => ?_)
  dsimp only
  have q237 : R235 78 0 = some 79 := ((congrFun (congrFun eR235 78) 0).trans (kR_State_ne (by decide))).trans q232
  refine g_aast (pc1 := 37) (ci := 6) (r := ("CookedLaw$State", T_State, 10)) d_Past_init_36 rfl sh_79 (by decide) (vin_lit (x := 25) (by decide)) (shSt_0 (by decide : 255 ∈ lSt)) (by decide) rfl rfl ?_
  rw [show ((25 : Int32).toNatClampNeg) = 25 from by decide]
  refine Wp.topR (fun R238 eR238 => ?_)
  have q239 : R238 78 0 = some 79 := (rdR_ne eR238 (by decide)).trans q237
  refine g_iinc (pc1 := 40) (v := 26) (lv' := [(0, .ref 78), (1, .int 26)]) d_Past_init_37 rfl 1 rfl (by decide) (by decide) [1, 0] rfl ?_
  refine g_goto (tgt := 15) d_Past_init_40 (by decide) ?_
  refine g_iload_n (pc1 := 16) d_Past_init_15 rfl 1 rfl ?_
  refine g_aload_n (pc1 := 17) d_Past_init_16 rfl 0 rfl ?_
  refine g_getr (pc1 := 20) d_Past_init_17 rfl ⟨_, fo_Past_11⟩ sh_78 (by decide) q239 ?_
  refine g_alen (pc1 := 21) (v := 40) d_Past_init_20 rfl sh_79 (by decide) (by decide) (by decide) (by decide) ?_
  refine g_icmp_ge (pc1 := 24) (tgt := 43) d_Past_init_21 (by decide) rfl (fun h => absurd h (by decide)) (fun _ => ?_)
  refine g_aload_n (pc1 := 25) d_Past_init_24 rfl 0 rfl ?_
  refine g_getr (pc1 := 28) d_Past_init_25 rfl ⟨_, fo_Past_11⟩ sh_78 (by decide) q239 ?_
  refine g_iload_n (pc1 := 29) d_Past_init_28 rfl 1 rfl ?_
  refine g_new (pc1 := 32) (T := T_State) (ty := ty_State) d_Past_init_29 rfl rfl (fun w h => gtb_of (in_State w h).1 (in_State w h).2) tyk_State (by decide) ck_Past_9 cn_State cz_State (shSt_0 (by decide : 262 ∈ lSt)) (fun i => ((Fz.wR F236 (by decide) eR238) _ (Nat.le_refl _) i).1) (fun i => ((Fz.wR F236 (by decide) eR238) _ (Nat.le_refl _) i).2.2) (Nat.le_of_ble_eq_true rfl) (Nat.le_of_ble_eq_true rfl) ?_
  refine g_dup (pc1 := 33) d_Past_init_32 rfl rfl ?_
  refine g_callI (pc1 := 36) (E' := (6, 34, 269)) (As := []) (rest := [.ref 262, .int 26, .ref 79]) d_Past_init_33 rfl mo_Past_17 mi_State_init rfl rfl (by decide) rfl rfl (Nat.le_of_ble_eq_true rfl) ⟨Nat.le_of_ble_eq_true rfl, Nat.le_of_ble_eq_true rfl⟩ rfl ?_
  refine t0_State_init 262 (by decide : 262 ∈ lSt) (Fz.up (Fz.wR F236 (by decide) eR238)) (fun M240 L241 R242 eM240 eL241 eR242 F243 => ?_)
  dsimp only
  have q244 : R242 78 0 = some 79 := ((congrFun (congrFun eR242 78) 0).trans (kR_State_ne (by decide))).trans q239
  refine g_aast (pc1 := 37) (ci := 6) (r := ("CookedLaw$State", T_State, 10)) d_Past_init_36 rfl sh_79 (by decide) (vin_lit (x := 26) (by decide)) (shSt_0 (by decide : 262 ∈ lSt)) (by decide) rfl rfl ?_
  rw [show ((26 : Int32).toNatClampNeg) = 26 from by decide]
  refine Wp.topR (fun R245 eR245 => ?_)
  have q246 : R245 78 0 = some 79 := (rdR_ne eR245 (by decide)).trans q244
  refine g_iinc (pc1 := 40) (v := 27) (lv' := [(0, .ref 78), (1, .int 27)]) d_Past_init_37 rfl 1 rfl (by decide) (by decide) [1, 0] rfl ?_
  refine g_goto (tgt := 15) d_Past_init_40 (by decide) ?_
  refine g_iload_n (pc1 := 16) d_Past_init_15 rfl 1 rfl ?_
  refine g_aload_n (pc1 := 17) d_Past_init_16 rfl 0 rfl ?_
  refine g_getr (pc1 := 20) d_Past_init_17 rfl ⟨_, fo_Past_11⟩ sh_78 (by decide) q246 ?_
  refine g_alen (pc1 := 21) (v := 40) d_Past_init_20 rfl sh_79 (by decide) (by decide) (by decide) (by decide) ?_
  refine g_icmp_ge (pc1 := 24) (tgt := 43) d_Past_init_21 (by decide) rfl (fun h => absurd h (by decide)) (fun _ => ?_)
  refine g_aload_n (pc1 := 25) d_Past_init_24 rfl 0 rfl ?_
  refine g_getr (pc1 := 28) d_Past_init_25 rfl ⟨_, fo_Past_11⟩ sh_78 (by decide) q246 ?_
  refine g_iload_n (pc1 := 29) d_Past_init_28 rfl 1 rfl ?_
  refine g_new (pc1 := 32) (T := T_State) (ty := ty_State) d_Past_init_29 rfl rfl (fun w h => gtb_of (in_State w h).1 (in_State w h).2) tyk_State (by decide) ck_Past_9 cn_State cz_State (shSt_0 (by decide : 269 ∈ lSt)) (fun i => ((Fz.wR F243 (by decide) eR245) _ (Nat.le_refl _) i).1) (fun i => ((Fz.wR F243 (by decide) eR245) _ (Nat.le_refl _) i).2.2) (Nat.le_of_ble_eq_true rfl) (Nat.le_of_ble_eq_true rfl) ?_
  refine g_dup (pc1 := 33) d_Past_init_32 rfl rfl ?_
  refine g_callI (pc1 := 36) (E' := (6, 34, 276)) (As := []) (rest := [.ref 269, .int 27, .ref 79]) d_Past_init_33 rfl mo_Past_17 mi_State_init rfl rfl (by decide) rfl rfl (Nat.le_of_ble_eq_true rfl) ⟨Nat.le_of_ble_eq_true rfl, Nat.le_of_ble_eq_true rfl⟩ rfl ?_
  refine t0_State_init 269 (by decide : 269 ∈ lSt) (Fz.up (Fz.wR F243 (by decide) eR245)) (fun M247 L248 R249 eM247 eL248 eR249 F250 => ?_)
  dsimp only
  have q251 : R249 78 0 = some 79 := ((congrFun (congrFun eR249 78) 0).trans (kR_State_ne (by decide))).trans q246
  refine g_aast (pc1 := 37) (ci := 6) (r := ("CookedLaw$State", T_State, 10)) d_Past_init_36 rfl sh_79 (by decide) (vin_lit (x := 27) (by decide)) (shSt_0 (by decide : 269 ∈ lSt)) (by decide) rfl rfl ?_
  rw [show ((27 : Int32).toNatClampNeg) = 27 from by decide]
  refine Wp.topR (fun R252 eR252 => ?_)
  have q253 : R252 78 0 = some 79 := (rdR_ne eR252 (by decide)).trans q251
  refine g_iinc (pc1 := 40) (v := 28) (lv' := [(0, .ref 78), (1, .int 28)]) d_Past_init_37 rfl 1 rfl (by decide) (by decide) [1, 0] rfl ?_
  refine g_goto (tgt := 15) d_Past_init_40 (by decide) ?_
  refine g_iload_n (pc1 := 16) d_Past_init_15 rfl 1 rfl ?_
  refine g_aload_n (pc1 := 17) d_Past_init_16 rfl 0 rfl ?_
  refine g_getr (pc1 := 20) d_Past_init_17 rfl ⟨_, fo_Past_11⟩ sh_78 (by decide) q253 ?_
  refine g_alen (pc1 := 21) (v := 40) d_Past_init_20 rfl sh_79 (by decide) (by decide) (by decide) (by decide) ?_
  refine g_icmp_ge (pc1 := 24) (tgt := 43) d_Past_init_21 (by decide) rfl (fun h => absurd h (by decide)) (fun _ => ?_)
  refine g_aload_n (pc1 := 25) d_Past_init_24 rfl 0 rfl ?_
  refine g_getr (pc1 := 28) d_Past_init_25 rfl ⟨_, fo_Past_11⟩ sh_78 (by decide) q253 ?_
  refine g_iload_n (pc1 := 29) d_Past_init_28 rfl 1 rfl ?_
  refine g_new (pc1 := 32) (T := T_State) (ty := ty_State) d_Past_init_29 rfl rfl (fun w h => gtb_of (in_State w h).1 (in_State w h).2) tyk_State (by decide) ck_Past_9 cn_State cz_State (shSt_0 (by decide : 276 ∈ lSt)) (fun i => ((Fz.wR F250 (by decide) eR252) _ (Nat.le_refl _) i).1) (fun i => ((Fz.wR F250 (by decide) eR252) _ (Nat.le_refl _) i).2.2) (Nat.le_of_ble_eq_true rfl) (Nat.le_of_ble_eq_true rfl) ?_
  refine g_dup (pc1 := 33) d_Past_init_32 rfl rfl ?_
  refine g_callI (pc1 := 36) (E' := (6, 34, 283)) (As := []) (rest := [.ref 276, .int 28, .ref 79]) d_Past_init_33 rfl mo_Past_17 mi_State_init rfl rfl (by decide) rfl rfl (Nat.le_of_ble_eq_true rfl) ⟨Nat.le_of_ble_eq_true rfl, Nat.le_of_ble_eq_true rfl⟩ rfl ?_
  refine t0_State_init 276 (by decide : 276 ∈ lSt) (Fz.up (Fz.wR F250 (by decide) eR252)) (fun M254 L255 R256 eM254 eL255 eR256 F257 => ?_)
  dsimp only
  have q258 : R256 78 0 = some 79 := ((congrFun (congrFun eR256 78) 0).trans (kR_State_ne (by decide))).trans q253
  refine g_aast (pc1 := 37) (ci := 6) (r := ("CookedLaw$State", T_State, 10)) d_Past_init_36 rfl sh_79 (by decide) (vin_lit (x := 28) (by decide)) (shSt_0 (by decide : 276 ∈ lSt)) (by decide) rfl rfl ?_
  rw [show ((28 : Int32).toNatClampNeg) = 28 from by decide]
  refine Wp.topR (fun R259 eR259 => ?_)
  have q260 : R259 78 0 = some 79 := (rdR_ne eR259 (by decide)).trans q258
  refine g_iinc (pc1 := 40) (v := 29) (lv' := [(0, .ref 78), (1, .int 29)]) d_Past_init_37 rfl 1 rfl (by decide) (by decide) [1, 0] rfl ?_
  refine g_goto (tgt := 15) d_Past_init_40 (by decide) ?_
  refine g_iload_n (pc1 := 16) d_Past_init_15 rfl 1 rfl ?_
  refine g_aload_n (pc1 := 17) d_Past_init_16 rfl 0 rfl ?_
  refine g_getr (pc1 := 20) d_Past_init_17 rfl ⟨_, fo_Past_11⟩ sh_78 (by decide) q260 ?_
  refine g_alen (pc1 := 21) (v := 40) d_Past_init_20 rfl sh_79 (by decide) (by decide) (by decide) (by decide) ?_
  refine g_icmp_ge (pc1 := 24) (tgt := 43) d_Past_init_21 (by decide) rfl (fun h => absurd h (by decide)) (fun _ => ?_)
  refine g_aload_n (pc1 := 25) d_Past_init_24 rfl 0 rfl ?_
  refine g_getr (pc1 := 28) d_Past_init_25 rfl ⟨_, fo_Past_11⟩ sh_78 (by decide) q260 ?_
  refine g_iload_n (pc1 := 29) d_Past_init_28 rfl 1 rfl ?_
  refine g_new (pc1 := 32) (T := T_State) (ty := ty_State) d_Past_init_29 rfl rfl (fun w h => gtb_of (in_State w h).1 (in_State w h).2) tyk_State (by decide) ck_Past_9 cn_State cz_State (shSt_0 (by decide : 283 ∈ lSt)) (fun i => ((Fz.wR F257 (by decide) eR259) _ (Nat.le_refl _) i).1) (fun i => ((Fz.wR F257 (by decide) eR259) _ (Nat.le_refl _) i).2.2) (Nat.le_of_ble_eq_true rfl) (Nat.le_of_ble_eq_true rfl) ?_
  refine g_dup (pc1 := 33) d_Past_init_32 rfl rfl ?_
  refine g_callI (pc1 := 36) (E' := (6, 34, 290)) (As := []) (rest := [.ref 283, .int 29, .ref 79]) d_Past_init_33 rfl mo_Past_17 mi_State_init rfl rfl (by decide) rfl rfl (Nat.le_of_ble_eq_true rfl) ⟨Nat.le_of_ble_eq_true rfl, Nat.le_of_ble_eq_true rfl⟩ rfl ?_
  refine t0_State_init 283 (by decide : 283 ∈ lSt) (Fz.up (Fz.wR F257 (by decide) eR259)) (fun M261 L262 R263 eM261 eL262 eR263 F264 => ?_)
  dsimp only
  have q265 : R263 78 0 = some 79 := ((congrFun (congrFun eR263 78) 0).trans (kR_State_ne (by decide))).trans q260
  refine g_aast (pc1 := 37) (ci := 6) (r := ("CookedLaw$State", T_State, 10)) d_Past_init_36 rfl sh_79 (by decide) (vin_lit (x := 29) (by decide)) (shSt_0 (by decide : 283 ∈ lSt)) (by decide) rfl rfl ?_
  rw [show ((29 : Int32).toNatClampNeg) = 29 from by decide]
  refine Wp.topR (fun R266 eR266 => ?_)
  have q267 : R266 78 0 = some 79 := (rdR_ne eR266 (by decide)).trans q265
  refine g_iinc (pc1 := 40) (v := 30) (lv' := [(0, .ref 78), (1, .int 30)]) d_Past_init_37 rfl 1 rfl (by decide) (by decide) [1, 0] rfl ?_
  refine g_goto (tgt := 15) d_Past_init_40 (by decide) ?_
  refine g_iload_n (pc1 := 16) d_Past_init_15 rfl 1 rfl ?_
  refine g_aload_n (pc1 := 17) d_Past_init_16 rfl 0 rfl ?_
  refine g_getr (pc1 := 20) d_Past_init_17 rfl ⟨_, fo_Past_11⟩ sh_78 (by decide) q267 ?_
  refine g_alen (pc1 := 21) (v := 40) d_Past_init_20 rfl sh_79 (by decide) (by decide) (by decide) (by decide) ?_
  refine g_icmp_ge (pc1 := 24) (tgt := 43) d_Past_init_21 (by decide) rfl (fun h => absurd h (by decide)) (fun _ => ?_)
  refine g_aload_n (pc1 := 25) d_Past_init_24 rfl 0 rfl ?_
  refine g_getr (pc1 := 28) d_Past_init_25 rfl ⟨_, fo_Past_11⟩ sh_78 (by decide) q267 ?_
  refine g_iload_n (pc1 := 29) d_Past_init_28 rfl 1 rfl ?_
  refine g_new (pc1 := 32) (T := T_State) (ty := ty_State) d_Past_init_29 rfl rfl (fun w h => gtb_of (in_State w h).1 (in_State w h).2) tyk_State (by decide) ck_Past_9 cn_State cz_State (shSt_0 (by decide : 290 ∈ lSt)) (fun i => ((Fz.wR F264 (by decide) eR266) _ (Nat.le_refl _) i).1) (fun i => ((Fz.wR F264 (by decide) eR266) _ (Nat.le_refl _) i).2.2) (Nat.le_of_ble_eq_true rfl) (Nat.le_of_ble_eq_true rfl) ?_
  refine g_dup (pc1 := 33) d_Past_init_32 rfl rfl ?_
  refine g_callI (pc1 := 36) (E' := (6, 34, 297)) (As := []) (rest := [.ref 290, .int 30, .ref 79]) d_Past_init_33 rfl mo_Past_17 mi_State_init rfl rfl (by decide) rfl rfl (Nat.le_of_ble_eq_true rfl) ⟨Nat.le_of_ble_eq_true rfl, Nat.le_of_ble_eq_true rfl⟩ rfl ?_
  refine t0_State_init 290 (by decide : 290 ∈ lSt) (Fz.up (Fz.wR F264 (by decide) eR266)) (fun M268 L269 R270 eM268 eL269 eR270 F271 => ?_)
  dsimp only
  have q272 : R270 78 0 = some 79 := ((congrFun (congrFun eR270 78) 0).trans (kR_State_ne (by decide))).trans q267
  refine g_aast (pc1 := 37) (ci := 6) (r := ("CookedLaw$State", T_State, 10)) d_Past_init_36 rfl sh_79 (by decide) (vin_lit (x := 30) (by decide)) (shSt_0 (by decide : 290 ∈ lSt)) (by decide) rfl rfl ?_
  rw [show ((30 : Int32).toNatClampNeg) = 30 from by decide]
  refine Wp.topR (fun R273 eR273 => ?_)
  have q274 : R273 78 0 = some 79 := (rdR_ne eR273 (by decide)).trans q272
  refine g_iinc (pc1 := 40) (v := 31) (lv' := [(0, .ref 78), (1, .int 31)]) d_Past_init_37 rfl 1 rfl (by decide) (by decide) [1, 0] rfl ?_
  refine g_goto (tgt := 15) d_Past_init_40 (by decide) ?_
  refine g_iload_n (pc1 := 16) d_Past_init_15 rfl 1 rfl ?_
  refine g_aload_n (pc1 := 17) d_Past_init_16 rfl 0 rfl ?_
  refine g_getr (pc1 := 20) d_Past_init_17 rfl ⟨_, fo_Past_11⟩ sh_78 (by decide) q274 ?_
  refine g_alen (pc1 := 21) (v := 40) d_Past_init_20 rfl sh_79 (by decide) (by decide) (by decide) (by decide) ?_
  refine g_icmp_ge (pc1 := 24) (tgt := 43) d_Past_init_21 (by decide) rfl (fun h => absurd h (by decide)) (fun _ => ?_)
  refine g_aload_n (pc1 := 25) d_Past_init_24 rfl 0 rfl ?_
  refine g_getr (pc1 := 28) d_Past_init_25 rfl ⟨_, fo_Past_11⟩ sh_78 (by decide) q274 ?_
  refine g_iload_n (pc1 := 29) d_Past_init_28 rfl 1 rfl ?_
  refine g_new (pc1 := 32) (T := T_State) (ty := ty_State) d_Past_init_29 rfl rfl (fun w h => gtb_of (in_State w h).1 (in_State w h).2) tyk_State (by decide) ck_Past_9 cn_State cz_State (shSt_0 (by decide : 297 ∈ lSt)) (fun i => ((Fz.wR F271 (by decide) eR273) _ (Nat.le_refl _) i).1) (fun i => ((Fz.wR F271 (by decide) eR273) _ (Nat.le_refl _) i).2.2) (Nat.le_of_ble_eq_true rfl) (Nat.le_of_ble_eq_true rfl) ?_
  refine g_dup (pc1 := 33) d_Past_init_32 rfl rfl ?_
  refine g_callI (pc1 := 36) (E' := (6, 34, 304)) (As := []) (rest := [.ref 297, .int 31, .ref 79]) d_Past_init_33 rfl mo_Past_17 mi_State_init rfl rfl (by decide) rfl rfl (Nat.le_of_ble_eq_true rfl) ⟨Nat.le_of_ble_eq_true rfl, Nat.le_of_ble_eq_true rfl⟩ rfl ?_
  refine t0_State_init 297 (by decide : 297 ∈ lSt) (Fz.up (Fz.wR F271 (by decide) eR273)) (fun M275 L276 R277 eM275 eL276 eR277 F278 => ?_)
  dsimp only
  have q279 : R277 78 0 = some 79 := ((congrFun (congrFun eR277 78) 0).trans (kR_State_ne (by decide))).trans q274
  refine g_aast (pc1 := 37) (ci := 6) (r := ("CookedLaw$State", T_State, 10)) d_Past_init_36 rfl sh_79 (by decide) (vin_lit (x := 31) (by decide)) (shSt_0 (by decide : 297 ∈ lSt)) (by decide) rfl rfl ?_
  rw [show ((31 : Int32).toNatClampNeg) = 31 from by decide]
  refine Wp.topR (fun R280 eR280 => ?_)
  have q281 : R280 78 0 = some 79 := (rdR_ne eR280 (by decide)).trans q279
  refine g_iinc (pc1 := 40) (v := 32) (lv' := [(0, .ref 78), (1, .int 32)]) d_Past_init_37 rfl 1 rfl (by decide) (by decide) [1, 0] rfl ?_
  refine g_goto (tgt := 15) d_Past_init_40 (by decide) ?_
  refine g_iload_n (pc1 := 16) d_Past_init_15 rfl 1 rfl ?_
  refine g_aload_n (pc1 := 17) d_Past_init_16 rfl 0 rfl ?_
  refine g_getr (pc1 := 20) d_Past_init_17 rfl ⟨_, fo_Past_11⟩ sh_78 (by decide) q281 ?_
  refine g_alen (pc1 := 21) (v := 40) d_Past_init_20 rfl sh_79 (by decide) (by decide) (by decide) (by decide) ?_
  refine g_icmp_ge (pc1 := 24) (tgt := 43) d_Past_init_21 (by decide) rfl (fun h => absurd h (by decide)) (fun _ => ?_)
  refine g_aload_n (pc1 := 25) d_Past_init_24 rfl 0 rfl ?_
  refine g_getr (pc1 := 28) d_Past_init_25 rfl ⟨_, fo_Past_11⟩ sh_78 (by decide) q281 ?_
  refine g_iload_n (pc1 := 29) d_Past_init_28 rfl 1 rfl ?_
  refine g_new (pc1 := 32) (T := T_State) (ty := ty_State) d_Past_init_29 rfl rfl (fun w h => gtb_of (in_State w h).1 (in_State w h).2) tyk_State (by decide) ck_Past_9 cn_State cz_State (shSt_0 (by decide : 304 ∈ lSt)) (fun i => ((Fz.wR F278 (by decide) eR280) _ (Nat.le_refl _) i).1) (fun i => ((Fz.wR F278 (by decide) eR280) _ (Nat.le_refl _) i).2.2) (Nat.le_of_ble_eq_true rfl) (Nat.le_of_ble_eq_true rfl) ?_
  refine g_dup (pc1 := 33) d_Past_init_32 rfl rfl ?_
  refine g_callI (pc1 := 36) (E' := (6, 34, 311)) (As := []) (rest := [.ref 304, .int 32, .ref 79]) d_Past_init_33 rfl mo_Past_17 mi_State_init rfl rfl (by decide) rfl rfl (Nat.le_of_ble_eq_true rfl) ⟨Nat.le_of_ble_eq_true rfl, Nat.le_of_ble_eq_true rfl⟩ rfl ?_
  refine t0_State_init 304 (by decide : 304 ∈ lSt) (Fz.up (Fz.wR F278 (by decide) eR280)) (fun M282 L283 R284 eM282 eL283 eR284 F285 => ?_)
  dsimp only
  have q286 : R284 78 0 = some 79 := ((congrFun (congrFun eR284 78) 0).trans (kR_State_ne (by decide))).trans q281
  refine g_aast (pc1 := 37) (ci := 6) (r := ("CookedLaw$State", T_State, 10)) d_Past_init_36 rfl sh_79 (by decide) (vin_lit (x := 32) (by decide)) (shSt_0 (by decide : 304 ∈ lSt)) (by decide) rfl rfl ?_
  rw [show ((32 : Int32).toNatClampNeg) = 32 from by decide]
  refine Wp.topR (fun R287 eR287 => ?_)
  have q288 : R287 78 0 = some 79 := (rdR_ne eR287 (by decide)).trans q286
  refine g_iinc (pc1 := 40) (v := 33) (lv' := [(0, .ref 78), (1, .int 33)]) d_Past_init_37 rfl 1 rfl (by decide) (by decide) [1, 0] rfl ?_
  refine g_goto (tgt := 15) d_Past_init_40 (by decide) ?_
  refine g_iload_n (pc1 := 16) d_Past_init_15 rfl 1 rfl ?_
  refine g_aload_n (pc1 := 17) d_Past_init_16 rfl 0 rfl ?_
  refine g_getr (pc1 := 20) d_Past_init_17 rfl ⟨_, fo_Past_11⟩ sh_78 (by decide) q288 ?_
  refine g_alen (pc1 := 21) (v := 40) d_Past_init_20 rfl sh_79 (by decide) (by decide) (by decide) (by decide) ?_
  refine g_icmp_ge (pc1 := 24) (tgt := 43) d_Past_init_21 (by decide) rfl (fun h => absurd h (by decide)) (fun _ => ?_)
  refine g_aload_n (pc1 := 25) d_Past_init_24 rfl 0 rfl ?_
  refine g_getr (pc1 := 28) d_Past_init_25 rfl ⟨_, fo_Past_11⟩ sh_78 (by decide) q288 ?_
  refine g_iload_n (pc1 := 29) d_Past_init_28 rfl 1 rfl ?_
  refine g_new (pc1 := 32) (T := T_State) (ty := ty_State) d_Past_init_29 rfl rfl (fun w h => gtb_of (in_State w h).1 (in_State w h).2) tyk_State (by decide) ck_Past_9 cn_State cz_State (shSt_0 (by decide : 311 ∈ lSt)) (fun i => ((Fz.wR F285 (by decide) eR287) _ (Nat.le_refl _) i).1) (fun i => ((Fz.wR F285 (by decide) eR287) _ (Nat.le_refl _) i).2.2) (Nat.le_of_ble_eq_true rfl) (Nat.le_of_ble_eq_true rfl) ?_
  refine g_dup (pc1 := 33) d_Past_init_32 rfl rfl ?_
  refine g_callI (pc1 := 36) (E' := (6, 34, 318)) (As := []) (rest := [.ref 311, .int 33, .ref 79]) d_Past_init_33 rfl mo_Past_17 mi_State_init rfl rfl (by decide) rfl rfl (Nat.le_of_ble_eq_true rfl) ⟨Nat.le_of_ble_eq_true rfl, Nat.le_of_ble_eq_true rfl⟩ rfl ?_
  refine t0_State_init 311 (by decide : 311 ∈ lSt) (Fz.up (Fz.wR F285 (by decide) eR287)) (fun M289 L290 R291 eM289 eL290 eR291 F292 => ?_)
  dsimp only
  have q293 : R291 78 0 = some 79 := ((congrFun (congrFun eR291 78) 0).trans (kR_State_ne (by decide))).trans q288
  refine g_aast (pc1 := 37) (ci := 6) (r := ("CookedLaw$State", T_State, 10)) d_Past_init_36 rfl sh_79 (by decide) (vin_lit (x := 33) (by decide)) (shSt_0 (by decide : 311 ∈ lSt)) (by decide) rfl rfl ?_
  rw [show ((33 : Int32).toNatClampNeg) = 33 from by decide]
  refine Wp.topR (fun R294 eR294 => ?_)
  have q295 : R294 78 0 = some 79 := (rdR_ne eR294 (by decide)).trans q293
  refine g_iinc (pc1 := 40) (v := 34) (lv' := [(0, .ref 78), (1, .int 34)]) d_Past_init_37 rfl 1 rfl (by decide) (by decide) [1, 0] rfl ?_
  refine g_goto (tgt := 15) d_Past_init_40 (by decide) ?_
  refine g_iload_n (pc1 := 16) d_Past_init_15 rfl 1 rfl ?_
  refine g_aload_n (pc1 := 17) d_Past_init_16 rfl 0 rfl ?_
  refine g_getr (pc1 := 20) d_Past_init_17 rfl ⟨_, fo_Past_11⟩ sh_78 (by decide) q295 ?_
  refine g_alen (pc1 := 21) (v := 40) d_Past_init_20 rfl sh_79 (by decide) (by decide) (by decide) (by decide) ?_
  refine g_icmp_ge (pc1 := 24) (tgt := 43) d_Past_init_21 (by decide) rfl (fun h => absurd h (by decide)) (fun _ => ?_)
  refine g_aload_n (pc1 := 25) d_Past_init_24 rfl 0 rfl ?_
  refine g_getr (pc1 := 28) d_Past_init_25 rfl ⟨_, fo_Past_11⟩ sh_78 (by decide) q295 ?_
  refine g_iload_n (pc1 := 29) d_Past_init_28 rfl 1 rfl ?_
  refine g_new (pc1 := 32) (T := T_State) (ty := ty_State) d_Past_init_29 rfl rfl (fun w h => gtb_of (in_State w h).1 (in_State w h).2) tyk_State (by decide) ck_Past_9 cn_State cz_State (shSt_0 (by decide : 318 ∈ lSt)) (fun i => ((Fz.wR F292 (by decide) eR294) _ (Nat.le_refl _) i).1) (fun i => ((Fz.wR F292 (by decide) eR294) _ (Nat.le_refl _) i).2.2) (Nat.le_of_ble_eq_true rfl) (Nat.le_of_ble_eq_true rfl) ?_
  refine g_dup (pc1 := 33) d_Past_init_32 rfl rfl ?_
  refine g_callI (pc1 := 36) (E' := (6, 34, 325)) (As := []) (rest := [.ref 318, .int 34, .ref 79]) d_Past_init_33 rfl mo_Past_17 mi_State_init rfl rfl (by decide) rfl rfl (Nat.le_of_ble_eq_true rfl) ⟨Nat.le_of_ble_eq_true rfl, Nat.le_of_ble_eq_true rfl⟩ rfl ?_
  refine t0_State_init 318 (by decide : 318 ∈ lSt) (Fz.up (Fz.wR F292 (by decide) eR294)) (fun M296 L297 R298 eM296 eL297 eR298 F299 => ?_)
  dsimp only
  have q300 : R298 78 0 = some 79 := ((congrFun (congrFun eR298 78) 0).trans (kR_State_ne (by decide))).trans q295
  refine g_aast (pc1 := 37) (ci := 6) (r := ("CookedLaw$State", T_State, 10)) d_Past_init_36 rfl sh_79 (by decide) (vin_lit (x := 34) (by decide)) (shSt_0 (by decide : 318 ∈ lSt)) (by decide) rfl rfl ?_
  rw [show ((34 : Int32).toNatClampNeg) = 34 from by decide]
  refine Wp.topR (fun R301 eR301 => ?_)
  have q302 : R301 78 0 = some 79 := (rdR_ne eR301 (by decide)).trans q300
  refine g_iinc (pc1 := 40) (v := 35) (lv' := [(0, .ref 78), (1, .int 35)]) d_Past_init_37 rfl 1 rfl (by decide) (by decide) [1, 0] rfl ?_
  refine g_goto (tgt := 15) d_Past_init_40 (by decide) ?_
  refine g_iload_n (pc1 := 16) d_Past_init_15 rfl 1 rfl ?_
  refine g_aload_n (pc1 := 17) d_Past_init_16 rfl 0 rfl ?_
  refine g_getr (pc1 := 20) d_Past_init_17 rfl ⟨_, fo_Past_11⟩ sh_78 (by decide) q302 ?_
  refine g_alen (pc1 := 21) (v := 40) d_Past_init_20 rfl sh_79 (by decide) (by decide) (by decide) (by decide) ?_
  refine g_icmp_ge (pc1 := 24) (tgt := 43) d_Past_init_21 (by decide) rfl (fun h => absurd h (by decide)) (fun _ => ?_)
  refine g_aload_n (pc1 := 25) d_Past_init_24 rfl 0 rfl ?_
  refine g_getr (pc1 := 28) d_Past_init_25 rfl ⟨_, fo_Past_11⟩ sh_78 (by decide) q302 ?_
  refine g_iload_n (pc1 := 29) d_Past_init_28 rfl 1 rfl ?_
  refine g_new (pc1 := 32) (T := T_State) (ty := ty_State) d_Past_init_29 rfl rfl (fun w h => gtb_of (in_State w h).1 (in_State w h).2) tyk_State (by decide) ck_Past_9 cn_State cz_State (shSt_0 (by decide : 325 ∈ lSt)) (fun i => ((Fz.wR F299 (by decide) eR301) _ (Nat.le_refl _) i).1) (fun i => ((Fz.wR F299 (by decide) eR301) _ (Nat.le_refl _) i).2.2) (Nat.le_of_ble_eq_true rfl) (Nat.le_of_ble_eq_true rfl) ?_
  refine g_dup (pc1 := 33) d_Past_init_32 rfl rfl ?_
  refine g_callI (pc1 := 36) (E' := (6, 34, 332)) (As := []) (rest := [.ref 325, .int 35, .ref 79]) d_Past_init_33 rfl mo_Past_17 mi_State_init rfl rfl (by decide) rfl rfl (Nat.le_of_ble_eq_true rfl) ⟨Nat.le_of_ble_eq_true rfl, Nat.le_of_ble_eq_true rfl⟩ rfl ?_
  refine t0_State_init 325 (by decide : 325 ∈ lSt) (Fz.up (Fz.wR F299 (by decide) eR301)) (fun M303 L304 R305 eM303 eL304 eR305 F306 => ?_)
  dsimp only
  have q307 : R305 78 0 = some 79 := ((congrFun (congrFun eR305 78) 0).trans (kR_State_ne (by decide))).trans q302
  refine g_aast (pc1 := 37) (ci := 6) (r := ("CookedLaw$State", T_State, 10)) d_Past_init_36 rfl sh_79 (by decide) (vin_lit (x := 35) (by decide)) (shSt_0 (by decide : 325 ∈ lSt)) (by decide) rfl rfl ?_
  rw [show ((35 : Int32).toNatClampNeg) = 35 from by decide]
  refine Wp.topR (fun R308 eR308 => ?_)
  have q309 : R308 78 0 = some 79 := (rdR_ne eR308 (by decide)).trans q307
  refine g_iinc (pc1 := 40) (v := 36) (lv' := [(0, .ref 78), (1, .int 36)]) d_Past_init_37 rfl 1 rfl (by decide) (by decide) [1, 0] rfl ?_
  refine g_goto (tgt := 15) d_Past_init_40 (by decide) ?_
  refine g_iload_n (pc1 := 16) d_Past_init_15 rfl 1 rfl ?_
  refine g_aload_n (pc1 := 17) d_Past_init_16 rfl 0 rfl ?_
  refine g_getr (pc1 := 20) d_Past_init_17 rfl ⟨_, fo_Past_11⟩ sh_78 (by decide) q309 ?_
  refine g_alen (pc1 := 21) (v := 40) d_Past_init_20 rfl sh_79 (by decide) (by decide) (by decide) (by decide) ?_
  refine g_icmp_ge (pc1 := 24) (tgt := 43) d_Past_init_21 (by decide) rfl (fun h => absurd h (by decide)) (fun _ => ?_)
  refine g_aload_n (pc1 := 25) d_Past_init_24 rfl 0 rfl ?_
  refine g_getr (pc1 := 28) d_Past_init_25 rfl ⟨_, fo_Past_11⟩ sh_78 (by decide) q309 ?_
  refine g_iload_n (pc1 := 29) d_Past_init_28 rfl 1 rfl ?_
  refine g_new (pc1 := 32) (T := T_State) (ty := ty_State) d_Past_init_29 rfl rfl (fun w h => gtb_of (in_State w h).1 (in_State w h).2) tyk_State (by decide) ck_Past_9 cn_State cz_State (shSt_0 (by decide : 332 ∈ lSt)) (fun i => ((Fz.wR F306 (by decide) eR308) _ (Nat.le_refl _) i).1) (fun i => ((Fz.wR F306 (by decide) eR308) _ (Nat.le_refl _) i).2.2) (Nat.le_of_ble_eq_true rfl) (Nat.le_of_ble_eq_true rfl) ?_
  refine g_dup (pc1 := 33) d_Past_init_32 rfl rfl ?_
  refine g_callI (pc1 := 36) (E' := (6, 34, 339)) (As := []) (rest := [.ref 332, .int 36, .ref 79]) d_Past_init_33 rfl mo_Past_17 mi_State_init rfl rfl (by decide) rfl rfl (Nat.le_of_ble_eq_true rfl) ⟨Nat.le_of_ble_eq_true rfl, Nat.le_of_ble_eq_true rfl⟩ rfl ?_
  refine t0_State_init 332 (by decide : 332 ∈ lSt) (Fz.up (Fz.wR F306 (by decide) eR308)) (fun M310 L311 R312 eM310 eL311 eR312 F313 => ?_)
  dsimp only
  have q314 : R312 78 0 = some 79 := ((congrFun (congrFun eR312 78) 0).trans (kR_State_ne (by decide))).trans q309
  refine g_aast (pc1 := 37) (ci := 6) (r := ("CookedLaw$State", T_State, 10)) d_Past_init_36 rfl sh_79 (by decide) (vin_lit (x := 36) (by decide)) (shSt_0 (by decide : 332 ∈ lSt)) (by decide) rfl rfl ?_
  rw [show ((36 : Int32).toNatClampNeg) = 36 from by decide]
  refine Wp.topR (fun R315 eR315 => ?_)
  have q316 : R315 78 0 = some 79 := (rdR_ne eR315 (by decide)).trans q314
  refine g_iinc (pc1 := 40) (v := 37) (lv' := [(0, .ref 78), (1, .int 37)]) d_Past_init_37 rfl 1 rfl (by decide) (by decide) [1, 0] rfl ?_
  refine g_goto (tgt := 15) d_Past_init_40 (by decide) ?_
  refine g_iload_n (pc1 := 16) d_Past_init_15 rfl 1 rfl ?_
  refine g_aload_n (pc1 := 17) d_Past_init_16 rfl 0 rfl ?_
  refine g_getr (pc1 := 20) d_Past_init_17 rfl ⟨_, fo_Past_11⟩ sh_78 (by decide) q316 ?_
  refine g_alen (pc1 := 21) (v := 40) d_Past_init_20 rfl sh_79 (by decide) (by decide) (by decide) (by decide) ?_
  refine g_icmp_ge (pc1 := 24) (tgt := 43) d_Past_init_21 (by decide) rfl (fun h => absurd h (by decide)) (fun _ => ?_)
  refine g_aload_n (pc1 := 25) d_Past_init_24 rfl 0 rfl ?_
  refine g_getr (pc1 := 28) d_Past_init_25 rfl ⟨_, fo_Past_11⟩ sh_78 (by decide) q316 ?_
  refine g_iload_n (pc1 := 29) d_Past_init_28 rfl 1 rfl ?_
  refine g_new (pc1 := 32) (T := T_State) (ty := ty_State) d_Past_init_29 rfl rfl (fun w h => gtb_of (in_State w h).1 (in_State w h).2) tyk_State (by decide) ck_Past_9 cn_State cz_State (shSt_0 (by decide : 339 ∈ lSt)) (fun i => ((Fz.wR F313 (by decide) eR315) _ (Nat.le_refl _) i).1) (fun i => ((Fz.wR F313 (by decide) eR315) _ (Nat.le_refl _) i).2.2) (Nat.le_of_ble_eq_true rfl) (Nat.le_of_ble_eq_true rfl) ?_
  refine g_dup (pc1 := 33) d_Past_init_32 rfl rfl ?_
  refine g_callI (pc1 := 36) (E' := (6, 34, 346)) (As := []) (rest := [.ref 339, .int 37, .ref 79]) d_Past_init_33 rfl mo_Past_17 mi_State_init rfl rfl (by decide) rfl rfl (Nat.le_of_ble_eq_true rfl) ⟨Nat.le_of_ble_eq_true rfl, Nat.le_of_ble_eq_true rfl⟩ rfl ?_
  refine t0_State_init 339 (by decide : 339 ∈ lSt) (Fz.up (Fz.wR F313 (by decide) eR315)) (fun M317 L318 R319 eM317 eL318 eR319 F320 => ?_)
  dsimp only
  have q321 : R319 78 0 = some 79 := ((congrFun (congrFun eR319 78) 0).trans (kR_State_ne (by decide))).trans q316
  refine g_aast (pc1 := 37) (ci := 6) (r := ("CookedLaw$State", T_State, 10)) d_Past_init_36 rfl sh_79 (by decide) (vin_lit (x := 37) (by decide)) (shSt_0 (by decide : 339 ∈ lSt)) (by decide) rfl rfl ?_
  rw [show ((37 : Int32).toNatClampNeg) = 37 from by decide]
  refine Wp.topR (fun R322 eR322 => ?_)
  have q323 : R322 78 0 = some 79 := (rdR_ne eR322 (by decide)).trans q321
  refine g_iinc (pc1 := 40) (v := 38) (lv' := [(0, .ref 78), (1, .int 38)]) d_Past_init_37 rfl 1 rfl (by decide) (by decide) [1, 0] rfl ?_
  refine g_goto (tgt := 15) d_Past_init_40 (by decide) ?_
  refine g_iload_n (pc1 := 16) d_Past_init_15 rfl 1 rfl ?_
  refine g_aload_n (pc1 := 17) d_Past_init_16 rfl 0 rfl ?_
  refine g_getr (pc1 := 20) d_Past_init_17 rfl ⟨_, fo_Past_11⟩ sh_78 (by decide) q323 ?_
  refine g_alen (pc1 := 21) (v := 40) d_Past_init_20 rfl sh_79 (by decide) (by decide) (by decide) (by decide) ?_
  refine g_icmp_ge (pc1 := 24) (tgt := 43) d_Past_init_21 (by decide) rfl (fun h => absurd h (by decide)) (fun _ => ?_)
  refine g_aload_n (pc1 := 25) d_Past_init_24 rfl 0 rfl ?_
  refine g_getr (pc1 := 28) d_Past_init_25 rfl ⟨_, fo_Past_11⟩ sh_78 (by decide) q323 ?_
  refine g_iload_n (pc1 := 29) d_Past_init_28 rfl 1 rfl ?_
  refine g_new (pc1 := 32) (T := T_State) (ty := ty_State) d_Past_init_29 rfl rfl (fun w h => gtb_of (in_State w h).1 (in_State w h).2) tyk_State (by decide) ck_Past_9 cn_State cz_State (shSt_0 (by decide : 346 ∈ lSt)) (fun i => ((Fz.wR F320 (by decide) eR322) _ (Nat.le_refl _) i).1) (fun i => ((Fz.wR F320 (by decide) eR322) _ (Nat.le_refl _) i).2.2) (Nat.le_of_ble_eq_true rfl) (Nat.le_of_ble_eq_true rfl) ?_
  refine g_dup (pc1 := 33) d_Past_init_32 rfl rfl ?_
  refine g_callI (pc1 := 36) (E' := (6, 34, 353)) (As := []) (rest := [.ref 346, .int 38, .ref 79]) d_Past_init_33 rfl mo_Past_17 mi_State_init rfl rfl (by decide) rfl rfl (Nat.le_of_ble_eq_true rfl) ⟨Nat.le_of_ble_eq_true rfl, Nat.le_of_ble_eq_true rfl⟩ rfl ?_
  refine t0_State_init 346 (by decide : 346 ∈ lSt) (Fz.up (Fz.wR F320 (by decide) eR322)) (fun M324 L325 R326 eM324 eL325 eR326 F327 => ?_)
  dsimp only
  have q328 : R326 78 0 = some 79 := ((congrFun (congrFun eR326 78) 0).trans (kR_State_ne (by decide))).trans q323
  refine g_aast (pc1 := 37) (ci := 6) (r := ("CookedLaw$State", T_State, 10)) d_Past_init_36 rfl sh_79 (by decide) (vin_lit (x := 38) (by decide)) (shSt_0 (by decide : 346 ∈ lSt)) (by decide) rfl rfl ?_
  rw [show ((38 : Int32).toNatClampNeg) = 38 from by decide]
  refine Wp.topR (fun R329 eR329 => ?_)
  have q330 : R329 78 0 = some 79 := (rdR_ne eR329 (by decide)).trans q328
  refine g_iinc (pc1 := 40) (v := 39) (lv' := [(0, .ref 78), (1, .int 39)]) d_Past_init_37 rfl 1 rfl (by decide) (by decide) [1, 0] rfl ?_
  refine g_goto (tgt := 15) d_Past_init_40 (by decide) ?_
  refine g_iload_n (pc1 := 16) d_Past_init_15 rfl 1 rfl ?_
  refine g_aload_n (pc1 := 17) d_Past_init_16 rfl 0 rfl ?_
  refine g_getr (pc1 := 20) d_Past_init_17 rfl ⟨_, fo_Past_11⟩ sh_78 (by decide) q330 ?_
  refine g_alen (pc1 := 21) (v := 40) d_Past_init_20 rfl sh_79 (by decide) (by decide) (by decide) (by decide) ?_
  refine g_icmp_ge (pc1 := 24) (tgt := 43) d_Past_init_21 (by decide) rfl (fun h => absurd h (by decide)) (fun _ => ?_)
  refine g_aload_n (pc1 := 25) d_Past_init_24 rfl 0 rfl ?_
  refine g_getr (pc1 := 28) d_Past_init_25 rfl ⟨_, fo_Past_11⟩ sh_78 (by decide) q330 ?_
  refine g_iload_n (pc1 := 29) d_Past_init_28 rfl 1 rfl ?_
  refine g_new (pc1 := 32) (T := T_State) (ty := ty_State) d_Past_init_29 rfl rfl (fun w h => gtb_of (in_State w h).1 (in_State w h).2) tyk_State (by decide) ck_Past_9 cn_State cz_State (shSt_0 (by decide : 353 ∈ lSt)) (fun i => ((Fz.wR F327 (by decide) eR329) _ (Nat.le_refl _) i).1) (fun i => ((Fz.wR F327 (by decide) eR329) _ (Nat.le_refl _) i).2.2) (Nat.le_of_ble_eq_true rfl) (Nat.le_of_ble_eq_true rfl) ?_
  refine g_dup (pc1 := 33) d_Past_init_32 rfl rfl ?_
  refine g_callI (pc1 := 36) (E' := (6, 34, 360)) (As := []) (rest := [.ref 353, .int 39, .ref 79]) d_Past_init_33 rfl mo_Past_17 mi_State_init rfl rfl (by decide) rfl rfl (Nat.le_of_ble_eq_true rfl) ⟨Nat.le_of_ble_eq_true rfl, Nat.le_of_ble_eq_true rfl⟩ rfl ?_
  refine t0_State_init 353 (by decide : 353 ∈ lSt) (Fz.up (Fz.wR F327 (by decide) eR329)) (fun M331 L332 R333 eM331 eL332 eR333 F334 => ?_)
  dsimp only
  have q335 : R333 78 0 = some 79 := ((congrFun (congrFun eR333 78) 0).trans (kR_State_ne (by decide))).trans q330
  refine g_aast (pc1 := 37) (ci := 6) (r := ("CookedLaw$State", T_State, 10)) d_Past_init_36 rfl sh_79 (by decide) (vin_lit (x := 39) (by decide)) (shSt_0 (by decide : 353 ∈ lSt)) (by decide) rfl rfl ?_
  rw [show ((39 : Int32).toNatClampNeg) = 39 from by decide]
  refine Wp.topR (fun R336 eR336 => ?_)
  have q337 : R336 78 0 = some 79 := (rdR_ne eR336 (by decide)).trans q335
  refine g_iinc (pc1 := 40) (v := 40) (lv' := [(0, .ref 78), (1, .int 40)]) d_Past_init_37 rfl 1 rfl (by decide) (by decide) [1, 0] rfl ?_
  refine g_goto (tgt := 15) d_Past_init_40 (by decide) ?_
  refine g_iload_n (pc1 := 16) d_Past_init_15 rfl 1 rfl ?_
  refine g_aload_n (pc1 := 17) d_Past_init_16 rfl 0 rfl ?_
  refine g_getr (pc1 := 20) d_Past_init_17 rfl ⟨_, fo_Past_11⟩ sh_78 (by decide) q337 ?_
  refine g_alen (pc1 := 21) (v := 40) d_Past_init_20 rfl sh_79 (by decide) (by decide) (by decide) (by decide) ?_
  refine g_icmp_ge (pc1 := 24) (tgt := 43) d_Past_init_21 (by decide) rfl (fun _ => ?_) (fun h => absurd h (by decide))
  refine g_return rfl d_Past_init_43 rfl ?_
  exact hQ _ _ _ (by subst_vars; rfl) (by subst_vars; rfl) (by subst_vars; rfl) (Fz.wR F334 (by decide) eR336)
def kM_Slots_init (M : gM) : gM := (kM_State_init 376 (kM_State_init 369 (kM_State_init 362 M)))
def kL_Slots_init (L : gL) : gL := (kL_State_init 376 (kL_State_init 369 (kL_State_init 362 L)))
def kR_Slots_init (R : gR) : gR := (uR (kR_State_init 376 (uR (kR_State_init 369 (uR (kR_State_init 362 (uR R 360 0 (some 361))) 361 0 (some 362))) 361 1 (some 369))) 361 2 (some 376))
set_option maxHeartbeats 4000000 in
set_option maxRecDepth 20000 in
theorem t0_Slots_init {l : Launch} {M : gM} {L : gL} {R : gR} {Q : Option Value → gM → gL → gR → Prop} (hF : Fz 361 M L R) (hQ : ∀ (M' : gM) (L' : gL) (R' : gR), M' = kM_Slots_init M → L' = kL_Slots_init L → R' = kR_Slots_init R → Fz 383 M' L' R' → Q none M' L' R') : Tm l y_Slots_init (22, 135, 383) 361 [.ref 360] M L R Q := by
  refine Tm.of (by decide) (Nat.le_of_ble_eq_true rfl) ?_
  show Wp l y_Slots_init (22, 135, 383) 361 0 0 0 [(0, .ref 360)] [] M L R Q
  refine g_aload_n (pc1 := 1) d_Slots_init_0 rfl 0 rfl ?_
  refine g_objInit (pc1 := 4) d_Slots_init_1 rfl ml_Slots_3 mi_objectInit mc_objectInit (by decide) (Nat.le_of_ble_eq_true rfl) ?_
  refine g_aload_n (pc1 := 5) d_Slots_init_4 rfl 0 rfl ?_
  refine g_iconst (pc1 := 6) (v := 3) d_Slots_init_5 rfl (by decide) ?_
  refine g_newR (pc1 := 9) d_Slots_init_6 rfl ck_Slots_9 sh_361 (fun i => (hF _ (Nat.le_refl _) i).2.2) (by decide) (by decide) (by decide) (Nat.le_of_ble_eq_true rfl) (Nat.le_of_ble_eq_true rfl) ?_
  refine g_putF (pc1 := 12) (v := .ref 361) (M' := M) (R' := uR R 360 0 (some 361)) d_Slots_init_9 rfl rfl ff_Slots_11 (fun _ => po_8_0 _) sh_360 (by decide) (fun _ => fvl_R_self) (fun _ q h => fvl_R_ne q h) (fun _ _ _ h => ent_neR h) ?_
  refine Wp.topR (fun R338 eR338 => ?_)
  have q339 : R338 360 0 = some 361 := rdR_eq eR338
  refine g_iconst (pc1 := 13) (v := 0) d_Slots_init_12 rfl (by decide) ?_
  refine g_istore_n (pc1 := 14) (lv' := [(0, .ref 360), (1, .int 0)]) d_Slots_init_13 rfl rfl (by decide) [1, 0] rfl ?_
  refine g_iload_n (pc1 := 15) d_Slots_init_14 rfl 1 rfl ?_
  refine g_aload_n (pc1 := 16) d_Slots_init_15 rfl 0 rfl ?_
  refine g_getr (pc1 := 19) d_Slots_init_16 rfl ⟨_, fo_Slots_11⟩ sh_360 (by decide) q339 ?_
  refine g_alen (pc1 := 20) (v := 3) d_Slots_init_19 rfl sh_361 (by decide) (by decide) (by decide) (by decide) ?_
  refine g_icmp_ge (pc1 := 23) (tgt := 42) d_Slots_init_20 (by decide) rfl (fun h => absurd h (by decide)) (fun _ => ?_)
  refine g_aload_n (pc1 := 24) d_Slots_init_23 rfl 0 rfl ?_
  refine g_getr (pc1 := 27) d_Slots_init_24 rfl ⟨_, fo_Slots_11⟩ sh_360 (by decide) q339 ?_
  refine g_iload_n (pc1 := 28) d_Slots_init_27 rfl 1 rfl ?_
  refine g_new (pc1 := 31) (T := T_State) (ty := ty_State) d_Slots_init_28 rfl rfl (fun w h => gtb_of (in_State w h).1 (in_State w h).2) tyk_State (by decide) ck_Slots_9 cn_State cz_State (shSt_0 (by decide : 362 ∈ lSt)) (fun i => ((Fz.wR (Fz.up hF) (by decide) eR338) _ (Nat.le_refl _) i).1) (fun i => ((Fz.wR (Fz.up hF) (by decide) eR338) _ (Nat.le_refl _) i).2.2) (Nat.le_of_ble_eq_true rfl) (Nat.le_of_ble_eq_true rfl) ?_
  refine g_dup (pc1 := 32) d_Slots_init_31 rfl rfl ?_
  refine g_callI (pc1 := 35) (E' := (6, 34, 369)) (As := []) (rest := [.ref 362, .int 0, .ref 361]) d_Slots_init_32 rfl mo_Slots_17 mi_State_init rfl rfl (by decide) rfl rfl (Nat.le_of_ble_eq_true rfl) ⟨Nat.le_of_ble_eq_true rfl, Nat.le_of_ble_eq_true rfl⟩ rfl ?_
  refine t0_State_init 362 (by decide : 362 ∈ lSt) (Fz.up (Fz.wR (Fz.up hF) (by decide) eR338)) (fun M340 L341 R342 eM340 eL341 eR342 F343 => ?_)
  dsimp only
  have q344 : R342 360 0 = some 361 := ((congrFun (congrFun eR342 360) 0).trans (kR_State_ne (by decide))).trans q339
  refine g_aast (pc1 := 36) (ci := 6) (r := ("CookedLaw$State", T_State, 10)) d_Slots_init_35 rfl sh_361 (by decide) (vin_lit (x := 0) (by decide)) (shSt_0 (by decide : 362 ∈ lSt)) (by decide) rfl rfl ?_
  rw [show ((0 : Int32).toNatClampNeg) = 0 from by decide]
  refine Wp.topR (fun R345 eR345 => ?_)
  have q346 : R345 360 0 = some 361 := (rdR_ne eR345 (by decide)).trans q344
  refine g_iinc (pc1 := 39) (v := 1) (lv' := [(0, .ref 360), (1, .int 1)]) d_Slots_init_36 rfl 1 rfl (by decide) (by decide) [1, 0] rfl ?_
  refine g_goto (tgt := 14) d_Slots_init_39 (by decide) ?_
  refine g_iload_n (pc1 := 15) d_Slots_init_14 rfl 1 rfl ?_
  refine g_aload_n (pc1 := 16) d_Slots_init_15 rfl 0 rfl ?_
  refine g_getr (pc1 := 19) d_Slots_init_16 rfl ⟨_, fo_Slots_11⟩ sh_360 (by decide) q346 ?_
  refine g_alen (pc1 := 20) (v := 3) d_Slots_init_19 rfl sh_361 (by decide) (by decide) (by decide) (by decide) ?_
  refine g_icmp_ge (pc1 := 23) (tgt := 42) d_Slots_init_20 (by decide) rfl (fun h => absurd h (by decide)) (fun _ => ?_)
  refine g_aload_n (pc1 := 24) d_Slots_init_23 rfl 0 rfl ?_
  refine g_getr (pc1 := 27) d_Slots_init_24 rfl ⟨_, fo_Slots_11⟩ sh_360 (by decide) q346 ?_
  refine g_iload_n (pc1 := 28) d_Slots_init_27 rfl 1 rfl ?_
  refine g_new (pc1 := 31) (T := T_State) (ty := ty_State) d_Slots_init_28 rfl rfl (fun w h => gtb_of (in_State w h).1 (in_State w h).2) tyk_State (by decide) ck_Slots_9 cn_State cz_State (shSt_0 (by decide : 369 ∈ lSt)) (fun i => ((Fz.wR F343 (by decide) eR345) _ (Nat.le_refl _) i).1) (fun i => ((Fz.wR F343 (by decide) eR345) _ (Nat.le_refl _) i).2.2) (Nat.le_of_ble_eq_true rfl) (Nat.le_of_ble_eq_true rfl) ?_
  refine g_dup (pc1 := 32) d_Slots_init_31 rfl rfl ?_
  refine g_callI (pc1 := 35) (E' := (6, 34, 376)) (As := []) (rest := [.ref 369, .int 1, .ref 361]) d_Slots_init_32 rfl mo_Slots_17 mi_State_init rfl rfl (by decide) rfl rfl (Nat.le_of_ble_eq_true rfl) ⟨Nat.le_of_ble_eq_true rfl, Nat.le_of_ble_eq_true rfl⟩ rfl ?_
  refine t0_State_init 369 (by decide : 369 ∈ lSt) (Fz.up (Fz.wR F343 (by decide) eR345)) (fun M347 L348 R349 eM347 eL348 eR349 F350 => ?_)
  dsimp only
  have q351 : R349 360 0 = some 361 := ((congrFun (congrFun eR349 360) 0).trans (kR_State_ne (by decide))).trans q346
  refine g_aast (pc1 := 36) (ci := 6) (r := ("CookedLaw$State", T_State, 10)) d_Slots_init_35 rfl sh_361 (by decide) (vin_lit (x := 1) (by decide)) (shSt_0 (by decide : 369 ∈ lSt)) (by decide) rfl rfl ?_
  rw [show ((1 : Int32).toNatClampNeg) = 1 from by decide]
  refine Wp.topR (fun R352 eR352 => ?_)
  have q353 : R352 360 0 = some 361 := (rdR_ne eR352 (by decide)).trans q351
  refine g_iinc (pc1 := 39) (v := 2) (lv' := [(0, .ref 360), (1, .int 2)]) d_Slots_init_36 rfl 1 rfl (by decide) (by decide) [1, 0] rfl ?_
  refine g_goto (tgt := 14) d_Slots_init_39 (by decide) ?_
  refine g_iload_n (pc1 := 15) d_Slots_init_14 rfl 1 rfl ?_
  refine g_aload_n (pc1 := 16) d_Slots_init_15 rfl 0 rfl ?_
  refine g_getr (pc1 := 19) d_Slots_init_16 rfl ⟨_, fo_Slots_11⟩ sh_360 (by decide) q353 ?_
  refine g_alen (pc1 := 20) (v := 3) d_Slots_init_19 rfl sh_361 (by decide) (by decide) (by decide) (by decide) ?_
  refine g_icmp_ge (pc1 := 23) (tgt := 42) d_Slots_init_20 (by decide) rfl (fun h => absurd h (by decide)) (fun _ => ?_)
  refine g_aload_n (pc1 := 24) d_Slots_init_23 rfl 0 rfl ?_
  refine g_getr (pc1 := 27) d_Slots_init_24 rfl ⟨_, fo_Slots_11⟩ sh_360 (by decide) q353 ?_
  refine g_iload_n (pc1 := 28) d_Slots_init_27 rfl 1 rfl ?_
  refine g_new (pc1 := 31) (T := T_State) (ty := ty_State) d_Slots_init_28 rfl rfl (fun w h => gtb_of (in_State w h).1 (in_State w h).2) tyk_State (by decide) ck_Slots_9 cn_State cz_State (shSt_0 (by decide : 376 ∈ lSt)) (fun i => ((Fz.wR F350 (by decide) eR352) _ (Nat.le_refl _) i).1) (fun i => ((Fz.wR F350 (by decide) eR352) _ (Nat.le_refl _) i).2.2) (Nat.le_of_ble_eq_true rfl) (Nat.le_of_ble_eq_true rfl) ?_
  refine g_dup (pc1 := 32) d_Slots_init_31 rfl rfl ?_
  refine g_callI (pc1 := 35) (E' := (6, 34, 383)) (As := []) (rest := [.ref 376, .int 2, .ref 361]) d_Slots_init_32 rfl mo_Slots_17 mi_State_init rfl rfl (by decide) rfl rfl (Nat.le_of_ble_eq_true rfl) ⟨Nat.le_of_ble_eq_true rfl, Nat.le_of_ble_eq_true rfl⟩ rfl ?_
  refine t0_State_init 376 (by decide : 376 ∈ lSt) (Fz.up (Fz.wR F350 (by decide) eR352)) (fun M354 L355 R356 eM354 eL355 eR356 F357 => ?_)
  dsimp only
  have q358 : R356 360 0 = some 361 := ((congrFun (congrFun eR356 360) 0).trans (kR_State_ne (by decide))).trans q353
  refine g_aast (pc1 := 36) (ci := 6) (r := ("CookedLaw$State", T_State, 10)) d_Slots_init_35 rfl sh_361 (by decide) (vin_lit (x := 2) (by decide)) (shSt_0 (by decide : 376 ∈ lSt)) (by decide) rfl rfl ?_
  rw [show ((2 : Int32).toNatClampNeg) = 2 from by decide]
  refine Wp.topR (fun R359 eR359 => ?_)
  have q360 : R359 360 0 = some 361 := (rdR_ne eR359 (by decide)).trans q358
  refine g_iinc (pc1 := 39) (v := 3) (lv' := [(0, .ref 360), (1, .int 3)]) d_Slots_init_36 rfl 1 rfl (by decide) (by decide) [1, 0] rfl ?_
  refine g_goto (tgt := 14) d_Slots_init_39 (by decide) ?_
  refine g_iload_n (pc1 := 15) d_Slots_init_14 rfl 1 rfl ?_
  refine g_aload_n (pc1 := 16) d_Slots_init_15 rfl 0 rfl ?_
  refine g_getr (pc1 := 19) d_Slots_init_16 rfl ⟨_, fo_Slots_11⟩ sh_360 (by decide) q360 ?_
  refine g_alen (pc1 := 20) (v := 3) d_Slots_init_19 rfl sh_361 (by decide) (by decide) (by decide) (by decide) ?_
  refine g_icmp_ge (pc1 := 23) (tgt := 42) d_Slots_init_20 (by decide) rfl (fun _ => ?_) (fun h => absurd h (by decide))
  refine g_return rfl d_Slots_init_42 rfl ?_
  exact hQ _ _ _ (by subst_vars; rfl) (by subst_vars; rfl) (by subst_vars; rfl) (Fz.wR F357 (by decide) eR359)
def kM_Tokens_init (M : gM) : gM := M
def kL_Tokens_init (L : gL) : gL := (uL (uL (uL (uL (uL (uL (uL (uL (uL (uL (uL (uL (uL (uL (uL (uL (uL (uL (uL (uL (uL (uL (uL (uL (uL (uL (uL (uL (uL (uL (uL (uL (uL (uL (uL (uL (uL (uL (uL (uL (uL (uL (uL (uL (uL (uL (uL (uL (uL (uL (uL (uL (uL (uL (uL (uL (uL (uL (uL (uL (uL (uL (uL (uL (uL (uL (uL (uL (uL (uL (uL (uL (uL (uL (uL (uL (uL (uL (uL (uL (uL (uL (uL (uL (uL (uL (uL (uL L 5 0 6) 5 0 207) 5 0 6639) 5 0 212452) 5 1 4) 5 1 137) 5 1 4403) 5 1 140904) 5 2 7) 5 2 245) 5 2 7845) 5 2 251059) 5 2 8033908) 5 3 4) 5 3 133) 5 3 4261) 5 3 136356) 5 4 6) 5 4 207) 5 4 6642) 5 4 212547) 5 4 6801509) 5 5 2) 5 5 73) 5 5 2350) 5 5 75204) 5 5 2406547) 5 6 6) 5 6 201) 5 6 6444) 5 6 206220) 5 6 6599059) 5 7 19) 5 7 620) 5 7 19849) 5 7 635184) 5 7 20325907) 5 8 19) 5 8 613) 5 8 19621) 5 8 627876) 5 9 9) 5 9 294) 5 10 20) 5 10 648) 5 10 20741) 5 10 663726) 5 11 5) 5 11 172) 5 11 5523) 5 11 176741) 5 12 19) 5 12 629) 5 12 20141) 5 13 8) 5 13 261) 5 13 8353) 5 13 267316) 5 14 11) 5 14 361) 5 14 11566) 5 14 370116) 5 15 13) 5 15 417) 5 15 13358) 5 15 427481) 5 16 4) 5 16 129) 5 16 4153) 5 17 16) 5 17 513) 5 17 16428) 5 17 525697) 5 17 16822324) 5 17 538314373) 5 18 1) 5 18 39) 5 18 1263) 5 19 19) 5 19 628) 5 19 20111) 5 19 643555) 5 19 20593771) 5 20 16) 5 20 530) 5 20 16969) 5 20 543011) 5 20 17376357)
def kR_Tokens_init (R : gR) : gR := (uR (uR (uR (uR R 4 0 (some 5)) 4 1 (some 6)) 4 2 (some 7)) 4 3 (some 8))
set_option maxHeartbeats 4000000 in
set_option maxRecDepth 20000 in
theorem t0_Tokens_init {l : Launch} {M : gM} {L : gL} {R : gR} {Q : Option Value → gM → gL → gR → Prop} (hF : Fz 5 M L R) (hQ : ∀ (M' : gM) (L' : gL) (R' : gR), M' = kM_Tokens_init M → L' = kL_Tokens_init L → R' = kR_Tokens_init R → Fz 9 M' L' R' → Q none M' L' R') : Tm l y_Tokens_init (4, 1224, 9) 5 [.ref 4] M L R Q := by
  refine Tm.of (by decide) (Nat.le_of_ble_eq_true rfl) ?_
  show Wp l y_Tokens_init (4, 1224, 9) 5 0 0 0 [(0, .ref 4)] [] M L R Q
  refine g_aload_n (pc1 := 1) d_Tokens_init_0 rfl 0 rfl ?_
  refine g_objInit (pc1 := 4) d_Tokens_init_1 rfl ml_Tokens_3 mi_objectInit mc_objectInit (by decide) (Nat.le_of_ble_eq_true rfl) ?_
  refine g_aload_n (pc1 := 5) d_Tokens_init_4 rfl 0 rfl ?_
  refine g_bipush (pc1 := 7) (v := 21) d_Tokens_init_5 rfl (by decide) ?_
  refine g_newJ (pc1 := 9) d_Tokens_init_7 rfl ca_long sh_5 (fun i => (hF _ (Nat.le_refl _) i).2.1) (by decide) (by decide) (by decide) (Nat.le_of_ble_eq_true rfl) (Nat.le_of_ble_eq_true rfl) ?_
  refine g_putF (pc1 := 12) (v := .ref 5) (M' := M) (R' := uR R 4 0 (some 5)) d_Tokens_init_9 rfl rfl ff_Tokens_9 (fun _ => po_3_0 _) sh_4 (by decide) (fun _ => fvl_R_self) (fun _ q h => fvl_R_ne q h) (fun _ _ _ h => ent_neR h) ?_
  refine Wp.topR (fun R361 eR361 => ?_)
  have q362 : R361 4 0 = some 5 := rdR_eq eR361
  refine g_aload_n (pc1 := 13) d_Tokens_init_12 rfl 0 rfl ?_
  refine g_sipush (pc1 := 16) (v := 401) d_Tokens_init_13 rfl (by decide) ?_
  refine g_newI (pc1 := 18) d_Tokens_init_16 rfl ca_int sh_6 (fun i => ((Fz.wR (Fz.up hF) (by decide) eR361) _ (Nat.le_refl _) i).1) (by decide) (by decide) (by decide) (Nat.le_of_ble_eq_true rfl) (Nat.le_of_ble_eq_true rfl) ?_
  refine g_putF (pc1 := 21) (v := .ref 6) (M' := M) (R' := uR R361 4 1 (some 6)) d_Tokens_init_18 rfl rfl ff_Tokens_15 (fun _ => po_3_1 _) sh_4 (by decide) (fun _ => fvl_R_self) (fun _ q h => fvl_R_ne q h) (fun _ _ _ h => ent_neR h) ?_
  refine Wp.topR (fun R363 eR363 => ?_)
  have q364 : R363 4 0 = some 5 := (rdR_ne eR363 (by decide)).trans q362
  refine g_aload_n (pc1 := 22) d_Tokens_init_21 rfl 0 rfl ?_
  refine g_sipush (pc1 := 25) (v := 401) d_Tokens_init_22 rfl (by decide) ?_
  refine g_newI (pc1 := 27) d_Tokens_init_25 rfl ca_int sh_7 (fun i => ((Fz.wR (Fz.up (Fz.wR (Fz.up hF) (by decide) eR361)) (by decide) eR363) _ (Nat.le_refl _) i).1) (by decide) (by decide) (by decide) (Nat.le_of_ble_eq_true rfl) (Nat.le_of_ble_eq_true rfl) ?_
  refine g_putF (pc1 := 30) (v := .ref 7) (M' := M) (R' := uR R363 4 2 (some 7)) d_Tokens_init_27 rfl rfl ff_Tokens_19 (fun _ => po_3_2 _) sh_4 (by decide) (fun _ => fvl_R_self) (fun _ q h => fvl_R_ne q h) (fun _ _ _ h => ent_neR h) ?_
  refine Wp.topR (fun R365 eR365 => ?_)
  have q366 : R365 4 0 = some 5 := (rdR_ne eR365 (by decide)).trans q364
  refine g_aload_n (pc1 := 31) d_Tokens_init_30 rfl 0 rfl ?_
  refine g_sipush (pc1 := 34) (v := 401) d_Tokens_init_31 rfl (by decide) ?_
  refine g_newJ (pc1 := 36) d_Tokens_init_34 rfl ca_long sh_8 (fun i => ((Fz.wR (Fz.up (Fz.wR (Fz.up (Fz.wR (Fz.up hF) (by decide) eR361)) (by decide) eR363)) (by decide) eR365) _ (Nat.le_refl _) i).2.1) (by decide) (by decide) (by decide) (Nat.le_of_ble_eq_true rfl) (Nat.le_of_ble_eq_true rfl) ?_
  refine g_putF (pc1 := 39) (v := .ref 8) (M' := M) (R' := uR R365 4 3 (some 8)) d_Tokens_init_36 rfl rfl ff_Tokens_22 (fun _ => po_3_3 _) sh_4 (by decide) (fun _ => fvl_R_self) (fun _ q h => fvl_R_ne q h) (fun _ _ _ h => ent_neR h) ?_
  refine Wp.topR (fun R367 eR367 => ?_)
  have q368 : R367 4 0 = some 5 := (rdR_ne eR367 (by decide)).trans q366
  refine g_iconst (pc1 := 40) (v := 0) d_Tokens_init_39 rfl (by decide) ?_
  refine g_istore_n (pc1 := 41) (lv' := [(0, .ref 4), (1, .int 0)]) d_Tokens_init_40 rfl rfl (by decide) [1, 0] rfl ?_
  refine g_iconst (pc1 := 42) (v := 0) d_Tokens_init_41 rfl (by decide) ?_
  refine g_istore_n (pc1 := 43) (lv' := [(0, .ref 4), (1, .int 0), (2, .int 0)]) d_Tokens_init_42 rfl rfl (by decide) [1, 2, 0] rfl ?_
  refine g_iload_n (pc1 := 44) d_Tokens_init_43 rfl 2 rfl ?_
  refine g_strlen (pc1 := 49) rfl d_Tokens_init_44 d_Tokens_init_46 rfl (Nat.le_of_ble_eq_true rfl) ⟨Nat.le_of_ble_eq_true rfl, Nat.le_of_ble_eq_true rfl⟩ ?_
  refine g_icmp_ge (pc1 := 52) (tgt := 102) d_Tokens_init_49 (by decide) rfl (fun h => absurd h (by decide)) (fun _ => ?_)
  refine g_strchr (pc1 := 58) (v := 102) rfl d_Tokens_init_52 d_Tokens_init_54 d_Tokens_init_55 rfl 2 rfl (by decide) (by decide) (by decide +kernel) (Nat.le_of_ble_eq_true rfl) ⟨Nat.le_of_ble_eq_true rfl, Nat.le_of_ble_eq_true rfl⟩ ?_
  refine g_istore_n (pc1 := 59) (lv' := [(0, .ref 4), (1, .int 0), (2, .int 0), (3, .int 102)]) d_Tokens_init_58 rfl rfl (by decide) [1, 2, 3, 0] rfl ?_
  refine g_iload_n (pc1 := 60) d_Tokens_init_59 rfl 3 rfl ?_
  refine g_bipush (pc1 := 62) (v := 32) d_Tokens_init_60 rfl (by decide) ?_
  refine g_icmp_ne (pc1 := 65) (tgt := 71) d_Tokens_init_62 (by decide) rfl (fun _ => ?_) (fun h => absurd h (by decide))
  refine g_iload_n (pc1 := 72) d_Tokens_init_71 rfl 1 rfl ?_
  refine g_aload_n (pc1 := 73) d_Tokens_init_72 rfl 0 rfl ?_
  refine g_getr (pc1 := 76) d_Tokens_init_73 rfl ⟨_, fo_Tokens_9⟩ sh_4 (by decide) q368 ?_
  refine g_alen (pc1 := 77) (v := 21) d_Tokens_init_76 rfl sh_5 (by decide) (by decide) (by decide) (by decide) ?_
  refine g_icmp_ge (pc1 := 80) (tgt := 96) d_Tokens_init_77 (by decide) rfl (fun h => absurd h (by decide)) (fun _ => ?_)
  refine g_aload_n (pc1 := 81) d_Tokens_init_80 rfl 0 rfl ?_
  refine g_getr (pc1 := 84) d_Tokens_init_81 rfl ⟨_, fo_Tokens_9⟩ sh_4 (by decide) q368 ?_
  refine g_iload_n (pc1 := 85) d_Tokens_init_84 rfl 1 rfl ?_
  refine g_aload_n (pc1 := 86) d_Tokens_init_85 rfl 0 rfl ?_
  refine g_getr (pc1 := 89) d_Tokens_init_86 rfl ⟨_, fo_Tokens_9⟩ sh_4 (by decide) q368 ?_
  refine g_iload_n (pc1 := 90) d_Tokens_init_89 rfl 1 rfl ?_
  refine g_lald (pc1 := 91) d_Tokens_init_90 rfl sh_5 (by decide) (vin_lit (x := 0) (by decide)) ?_
  have Z369 : ∀ j : Nat, L 5 j = 0 := fun j => (hF _ (by decide) j).2.1
  refine Wp.vall (y := 0) (by rw [show (0 : Int32).toNatClampNeg = 0 from by decide]; exact (Z369 0)) ?_
  refine g_iload_n (pc1 := 92) d_Tokens_init_91 rfl 3 rfl ?_
  refine g_callS (pc1 := 95) (E' := (0, 0, 9)) (As := [.long 0, .int 102]) (rest := [.int 0, .ref 5]) d_Tokens_init_92 rfl mo_Tokens_37 ms_Tokens_withLetter (by decide) rfl rfl (Nat.le_of_ble_eq_true rfl) ⟨Nat.le_of_ble_eq_true rfl, Nat.le_of_ble_eq_true rfl⟩ rfl ?_
  refine t0_withLetter ?_
  dsimp only [psh]
  refine Wp.vall (y := 6) (by decide +kernel) ?_
  refine g_last (pc1 := 96) d_Tokens_init_95 rfl sh_5 (by decide) (vin_lit (x := 0) (by decide)) ?_
  rw [show ((0 : Int32).toNatClampNeg) = 0 from by decide]
  refine Wp.topL (fun L370 eL370 => ?_)
  have Z371 : ∀ j : Nat, 0 < j → L370 5 j = 0 := fun j hj => (rdL_ne eL370 (fun q => by omega)).trans (Z369 j)
  have q372 : L370 5 0 = 6 := rdL_eq eL370
  refine g_iinc (pc1 := 99) (v := 1) (lv' := [(0, .ref 4), (1, .int 0), (2, .int 1), (3, .int 102)]) d_Tokens_init_96 rfl 2 rfl (by decide) (by decide) [1, 2, 0, 3] rfl ?_
  refine g_goto (tgt := 43) d_Tokens_init_99 (by decide) ?_
  refine g_iload_n (pc1 := 44) d_Tokens_init_43 rfl 2 rfl ?_
  refine g_strlen (pc1 := 49) rfl d_Tokens_init_44 d_Tokens_init_46 rfl (Nat.le_of_ble_eq_true rfl) ⟨Nat.le_of_ble_eq_true rfl, Nat.le_of_ble_eq_true rfl⟩ ?_
  refine g_icmp_ge (pc1 := 52) (tgt := 102) d_Tokens_init_49 (by decide) rfl (fun h => absurd h (by decide)) (fun _ => ?_)
  refine g_strchr (pc1 := 58) (v := 111) rfl d_Tokens_init_52 d_Tokens_init_54 d_Tokens_init_55 rfl 2 rfl (by decide) (by decide) (by decide +kernel) (Nat.le_of_ble_eq_true rfl) ⟨Nat.le_of_ble_eq_true rfl, Nat.le_of_ble_eq_true rfl⟩ ?_
  refine g_istore_n (pc1 := 59) (lv' := [(0, .ref 4), (1, .int 0), (2, .int 1), (3, .int 111)]) d_Tokens_init_58 rfl rfl (by decide) [1, 2, 3, 0] rfl ?_
  refine g_iload_n (pc1 := 60) d_Tokens_init_59 rfl 3 rfl ?_
  refine g_bipush (pc1 := 62) (v := 32) d_Tokens_init_60 rfl (by decide) ?_
  refine g_icmp_ne (pc1 := 65) (tgt := 71) d_Tokens_init_62 (by decide) rfl (fun _ => ?_) (fun h => absurd h (by decide))
  refine g_iload_n (pc1 := 72) d_Tokens_init_71 rfl 1 rfl ?_
  refine g_aload_n (pc1 := 73) d_Tokens_init_72 rfl 0 rfl ?_
  refine g_getr (pc1 := 76) d_Tokens_init_73 rfl ⟨_, fo_Tokens_9⟩ sh_4 (by decide) q368 ?_
  refine g_alen (pc1 := 77) (v := 21) d_Tokens_init_76 rfl sh_5 (by decide) (by decide) (by decide) (by decide) ?_
  refine g_icmp_ge (pc1 := 80) (tgt := 96) d_Tokens_init_77 (by decide) rfl (fun h => absurd h (by decide)) (fun _ => ?_)
  refine g_aload_n (pc1 := 81) d_Tokens_init_80 rfl 0 rfl ?_
  refine g_getr (pc1 := 84) d_Tokens_init_81 rfl ⟨_, fo_Tokens_9⟩ sh_4 (by decide) q368 ?_
  refine g_iload_n (pc1 := 85) d_Tokens_init_84 rfl 1 rfl ?_
  refine g_aload_n (pc1 := 86) d_Tokens_init_85 rfl 0 rfl ?_
  refine g_getr (pc1 := 89) d_Tokens_init_86 rfl ⟨_, fo_Tokens_9⟩ sh_4 (by decide) q368 ?_
  refine g_iload_n (pc1 := 90) d_Tokens_init_89 rfl 1 rfl ?_
  refine g_lald (pc1 := 91) d_Tokens_init_90 rfl sh_5 (by decide) (vin_lit (x := 0) (by decide)) ?_
  refine Wp.vall (y := 6) (by rw [show (0 : Int32).toNatClampNeg = 0 from by decide]; exact q372) ?_
  refine g_iload_n (pc1 := 92) d_Tokens_init_91 rfl 3 rfl ?_
  refine g_callS (pc1 := 95) (E' := (0, 0, 9)) (As := [.long 6, .int 111]) (rest := [.int 0, .ref 5]) d_Tokens_init_92 rfl mo_Tokens_37 ms_Tokens_withLetter (by decide) rfl rfl (Nat.le_of_ble_eq_true rfl) ⟨Nat.le_of_ble_eq_true rfl, Nat.le_of_ble_eq_true rfl⟩ rfl ?_
  refine t0_withLetter ?_
  dsimp only [psh]
  refine Wp.vall (y := 207) (by decide +kernel) ?_
  refine g_last (pc1 := 96) d_Tokens_init_95 rfl sh_5 (by decide) (vin_lit (x := 0) (by decide)) ?_
  rw [show ((0 : Int32).toNatClampNeg) = 0 from by decide]
  refine Wp.topL (fun L373 eL373 => ?_)
  have Z374 : ∀ j : Nat, 0 < j → L373 5 j = 0 := fun j hj => (rdL_ne eL373 (fun q => by omega)).trans (Z371 j (by omega))
  have q375 : L373 5 0 = 207 := rdL_eq eL373
  refine g_iinc (pc1 := 99) (v := 2) (lv' := [(0, .ref 4), (1, .int 0), (2, .int 2), (3, .int 111)]) d_Tokens_init_96 rfl 2 rfl (by decide) (by decide) [1, 2, 0, 3] rfl ?_
  refine g_goto (tgt := 43) d_Tokens_init_99 (by decide) ?_
  refine g_iload_n (pc1 := 44) d_Tokens_init_43 rfl 2 rfl ?_
  refine g_strlen (pc1 := 49) rfl d_Tokens_init_44 d_Tokens_init_46 rfl (Nat.le_of_ble_eq_true rfl) ⟨Nat.le_of_ble_eq_true rfl, Nat.le_of_ble_eq_true rfl⟩ ?_
  refine g_icmp_ge (pc1 := 52) (tgt := 102) d_Tokens_init_49 (by decide) rfl (fun h => absurd h (by decide)) (fun _ => ?_)
  refine g_strchr (pc1 := 58) (v := 111) rfl d_Tokens_init_52 d_Tokens_init_54 d_Tokens_init_55 rfl 2 rfl (by decide) (by decide) (by decide +kernel) (Nat.le_of_ble_eq_true rfl) ⟨Nat.le_of_ble_eq_true rfl, Nat.le_of_ble_eq_true rfl⟩ ?_
  refine g_istore_n (pc1 := 59) (lv' := [(0, .ref 4), (1, .int 0), (2, .int 2), (3, .int 111)]) d_Tokens_init_58 rfl rfl (by decide) [1, 2, 3, 0] rfl ?_
  refine g_iload_n (pc1 := 60) d_Tokens_init_59 rfl 3 rfl ?_
  refine g_bipush (pc1 := 62) (v := 32) d_Tokens_init_60 rfl (by decide) ?_
  refine g_icmp_ne (pc1 := 65) (tgt := 71) d_Tokens_init_62 (by decide) rfl (fun _ => ?_) (fun h => absurd h (by decide))
  refine g_iload_n (pc1 := 72) d_Tokens_init_71 rfl 1 rfl ?_
  refine g_aload_n (pc1 := 73) d_Tokens_init_72 rfl 0 rfl ?_
  refine g_getr (pc1 := 76) d_Tokens_init_73 rfl ⟨_, fo_Tokens_9⟩ sh_4 (by decide) q368 ?_
  refine g_alen (pc1 := 77) (v := 21) d_Tokens_init_76 rfl sh_5 (by decide) (by decide) (by decide) (by decide) ?_
  refine g_icmp_ge (pc1 := 80) (tgt := 96) d_Tokens_init_77 (by decide) rfl (fun h => absurd h (by decide)) (fun _ => ?_)
  refine g_aload_n (pc1 := 81) d_Tokens_init_80 rfl 0 rfl ?_
  refine g_getr (pc1 := 84) d_Tokens_init_81 rfl ⟨_, fo_Tokens_9⟩ sh_4 (by decide) q368 ?_
  refine g_iload_n (pc1 := 85) d_Tokens_init_84 rfl 1 rfl ?_
  refine g_aload_n (pc1 := 86) d_Tokens_init_85 rfl 0 rfl ?_
  refine g_getr (pc1 := 89) d_Tokens_init_86 rfl ⟨_, fo_Tokens_9⟩ sh_4 (by decide) q368 ?_
  refine g_iload_n (pc1 := 90) d_Tokens_init_89 rfl 1 rfl ?_
  refine g_lald (pc1 := 91) d_Tokens_init_90 rfl sh_5 (by decide) (vin_lit (x := 0) (by decide)) ?_
  refine Wp.vall (y := 207) (by rw [show (0 : Int32).toNatClampNeg = 0 from by decide]; exact q375) ?_
  refine g_iload_n (pc1 := 92) d_Tokens_init_91 rfl 3 rfl ?_
  refine g_callS (pc1 := 95) (E' := (0, 0, 9)) (As := [.long 207, .int 111]) (rest := [.int 0, .ref 5]) d_Tokens_init_92 rfl mo_Tokens_37 ms_Tokens_withLetter (by decide) rfl rfl (Nat.le_of_ble_eq_true rfl) ⟨Nat.le_of_ble_eq_true rfl, Nat.le_of_ble_eq_true rfl⟩ rfl ?_
  refine t0_withLetter ?_
  dsimp only [psh]
  refine Wp.vall (y := 6639) (by decide +kernel) ?_
  refine g_last (pc1 := 96) d_Tokens_init_95 rfl sh_5 (by decide) (vin_lit (x := 0) (by decide)) ?_
  rw [show ((0 : Int32).toNatClampNeg) = 0 from by decide]
  refine Wp.topL (fun L376 eL376 => ?_)
  have Z377 : ∀ j : Nat, 0 < j → L376 5 j = 0 := fun j hj => (rdL_ne eL376 (fun q => by omega)).trans (Z374 j (by omega))
  have q378 : L376 5 0 = 6639 := rdL_eq eL376
  refine g_iinc (pc1 := 99) (v := 3) (lv' := [(0, .ref 4), (1, .int 0), (2, .int 3), (3, .int 111)]) d_Tokens_init_96 rfl 2 rfl (by decide) (by decide) [1, 2, 0, 3] rfl ?_
  refine g_goto (tgt := 43) d_Tokens_init_99 (by decide) ?_
  refine g_iload_n (pc1 := 44) d_Tokens_init_43 rfl 2 rfl ?_
  refine g_strlen (pc1 := 49) rfl d_Tokens_init_44 d_Tokens_init_46 rfl (Nat.le_of_ble_eq_true rfl) ⟨Nat.le_of_ble_eq_true rfl, Nat.le_of_ble_eq_true rfl⟩ ?_
  refine g_icmp_ge (pc1 := 52) (tgt := 102) d_Tokens_init_49 (by decide) rfl (fun h => absurd h (by decide)) (fun _ => ?_)
  refine g_strchr (pc1 := 58) (v := 100) rfl d_Tokens_init_52 d_Tokens_init_54 d_Tokens_init_55 rfl 2 rfl (by decide) (by decide) (by decide +kernel) (Nat.le_of_ble_eq_true rfl) ⟨Nat.le_of_ble_eq_true rfl, Nat.le_of_ble_eq_true rfl⟩ ?_
  refine g_istore_n (pc1 := 59) (lv' := [(0, .ref 4), (1, .int 0), (2, .int 3), (3, .int 100)]) d_Tokens_init_58 rfl rfl (by decide) [1, 2, 3, 0] rfl ?_
  refine g_iload_n (pc1 := 60) d_Tokens_init_59 rfl 3 rfl ?_
  refine g_bipush (pc1 := 62) (v := 32) d_Tokens_init_60 rfl (by decide) ?_
  refine g_icmp_ne (pc1 := 65) (tgt := 71) d_Tokens_init_62 (by decide) rfl (fun _ => ?_) (fun h => absurd h (by decide))
  refine g_iload_n (pc1 := 72) d_Tokens_init_71 rfl 1 rfl ?_
  refine g_aload_n (pc1 := 73) d_Tokens_init_72 rfl 0 rfl ?_
  refine g_getr (pc1 := 76) d_Tokens_init_73 rfl ⟨_, fo_Tokens_9⟩ sh_4 (by decide) q368 ?_
  refine g_alen (pc1 := 77) (v := 21) d_Tokens_init_76 rfl sh_5 (by decide) (by decide) (by decide) (by decide) ?_
  refine g_icmp_ge (pc1 := 80) (tgt := 96) d_Tokens_init_77 (by decide) rfl (fun h => absurd h (by decide)) (fun _ => ?_)
  refine g_aload_n (pc1 := 81) d_Tokens_init_80 rfl 0 rfl ?_
  refine g_getr (pc1 := 84) d_Tokens_init_81 rfl ⟨_, fo_Tokens_9⟩ sh_4 (by decide) q368 ?_
  refine g_iload_n (pc1 := 85) d_Tokens_init_84 rfl 1 rfl ?_
  refine g_aload_n (pc1 := 86) d_Tokens_init_85 rfl 0 rfl ?_
  refine g_getr (pc1 := 89) d_Tokens_init_86 rfl ⟨_, fo_Tokens_9⟩ sh_4 (by decide) q368 ?_
  refine g_iload_n (pc1 := 90) d_Tokens_init_89 rfl 1 rfl ?_
  refine g_lald (pc1 := 91) d_Tokens_init_90 rfl sh_5 (by decide) (vin_lit (x := 0) (by decide)) ?_
  refine Wp.vall (y := 6639) (by rw [show (0 : Int32).toNatClampNeg = 0 from by decide]; exact q378) ?_
  refine g_iload_n (pc1 := 92) d_Tokens_init_91 rfl 3 rfl ?_
  refine g_callS (pc1 := 95) (E' := (0, 0, 9)) (As := [.long 6639, .int 100]) (rest := [.int 0, .ref 5]) d_Tokens_init_92 rfl mo_Tokens_37 ms_Tokens_withLetter (by decide) rfl rfl (Nat.le_of_ble_eq_true rfl) ⟨Nat.le_of_ble_eq_true rfl, Nat.le_of_ble_eq_true rfl⟩ rfl ?_
  refine t0_withLetter ?_
  dsimp only [psh]
  refine Wp.vall (y := 212452) (by decide +kernel) ?_
  refine g_last (pc1 := 96) d_Tokens_init_95 rfl sh_5 (by decide) (vin_lit (x := 0) (by decide)) ?_
  rw [show ((0 : Int32).toNatClampNeg) = 0 from by decide]
  refine Wp.topL (fun L379 eL379 => ?_)
  have Z380 : ∀ j : Nat, 0 < j → L379 5 j = 0 := fun j hj => (rdL_ne eL379 (fun q => by omega)).trans (Z377 j (by omega))
  have q381 : L379 5 0 = 212452 := rdL_eq eL379
  refine g_iinc (pc1 := 99) (v := 4) (lv' := [(0, .ref 4), (1, .int 0), (2, .int 4), (3, .int 100)]) d_Tokens_init_96 rfl 2 rfl (by decide) (by decide) [1, 2, 0, 3] rfl ?_
  refine g_goto (tgt := 43) d_Tokens_init_99 (by decide) ?_
  refine g_iload_n (pc1 := 44) d_Tokens_init_43 rfl 2 rfl ?_
  refine g_strlen (pc1 := 49) rfl d_Tokens_init_44 d_Tokens_init_46 rfl (Nat.le_of_ble_eq_true rfl) ⟨Nat.le_of_ble_eq_true rfl, Nat.le_of_ble_eq_true rfl⟩ ?_
  refine g_icmp_ge (pc1 := 52) (tgt := 102) d_Tokens_init_49 (by decide) rfl (fun h => absurd h (by decide)) (fun _ => ?_)
  refine g_strchr (pc1 := 58) (v := 32) rfl d_Tokens_init_52 d_Tokens_init_54 d_Tokens_init_55 rfl 2 rfl (by decide) (by decide) (by decide +kernel) (Nat.le_of_ble_eq_true rfl) ⟨Nat.le_of_ble_eq_true rfl, Nat.le_of_ble_eq_true rfl⟩ ?_
  refine g_istore_n (pc1 := 59) (lv' := [(0, .ref 4), (1, .int 0), (2, .int 4), (3, .int 32)]) d_Tokens_init_58 rfl rfl (by decide) [1, 2, 3, 0] rfl ?_
  refine g_iload_n (pc1 := 60) d_Tokens_init_59 rfl 3 rfl ?_
  refine g_bipush (pc1 := 62) (v := 32) d_Tokens_init_60 rfl (by decide) ?_
  refine g_icmp_ne (pc1 := 65) (tgt := 71) d_Tokens_init_62 (by decide) rfl (fun h => absurd h (by decide)) (fun _ => ?_)
  refine g_iinc (pc1 := 68) (v := 1) (lv' := [(0, .ref 4), (1, .int 1), (2, .int 4), (3, .int 32)]) d_Tokens_init_65 rfl 1 rfl (by decide) (by decide) [1, 0, 2, 3] rfl ?_
  refine g_goto (tgt := 96) d_Tokens_init_68 (by decide) ?_
  refine g_iinc (pc1 := 99) (v := 5) (lv' := [(0, .ref 4), (1, .int 1), (2, .int 5), (3, .int 32)]) d_Tokens_init_96 rfl 2 rfl (by decide) (by decide) [1, 2, 0, 3] rfl ?_
  refine g_goto (tgt := 43) d_Tokens_init_99 (by decide) ?_
  refine g_iload_n (pc1 := 44) d_Tokens_init_43 rfl 2 rfl ?_
  refine g_strlen (pc1 := 49) rfl d_Tokens_init_44 d_Tokens_init_46 rfl (Nat.le_of_ble_eq_true rfl) ⟨Nat.le_of_ble_eq_true rfl, Nat.le_of_ble_eq_true rfl⟩ ?_
  refine g_icmp_ge (pc1 := 52) (tgt := 102) d_Tokens_init_49 (by decide) rfl (fun h => absurd h (by decide)) (fun _ => ?_)
  refine g_strchr (pc1 := 58) (v := 100) rfl d_Tokens_init_52 d_Tokens_init_54 d_Tokens_init_55 rfl 2 rfl (by decide) (by decide) (by decide +kernel) (Nat.le_of_ble_eq_true rfl) ⟨Nat.le_of_ble_eq_true rfl, Nat.le_of_ble_eq_true rfl⟩ ?_
  refine g_istore_n (pc1 := 59) (lv' := [(0, .ref 4), (1, .int 1), (2, .int 5), (3, .int 100)]) d_Tokens_init_58 rfl rfl (by decide) [1, 2, 3, 0] rfl ?_
  refine g_iload_n (pc1 := 60) d_Tokens_init_59 rfl 3 rfl ?_
  refine g_bipush (pc1 := 62) (v := 32) d_Tokens_init_60 rfl (by decide) ?_
  refine g_icmp_ne (pc1 := 65) (tgt := 71) d_Tokens_init_62 (by decide) rfl (fun _ => ?_) (fun h => absurd h (by decide))
  refine g_iload_n (pc1 := 72) d_Tokens_init_71 rfl 1 rfl ?_
  refine g_aload_n (pc1 := 73) d_Tokens_init_72 rfl 0 rfl ?_
  refine g_getr (pc1 := 76) d_Tokens_init_73 rfl ⟨_, fo_Tokens_9⟩ sh_4 (by decide) q368 ?_
  refine g_alen (pc1 := 77) (v := 21) d_Tokens_init_76 rfl sh_5 (by decide) (by decide) (by decide) (by decide) ?_
  refine g_icmp_ge (pc1 := 80) (tgt := 96) d_Tokens_init_77 (by decide) rfl (fun h => absurd h (by decide)) (fun _ => ?_)
  refine g_aload_n (pc1 := 81) d_Tokens_init_80 rfl 0 rfl ?_
  refine g_getr (pc1 := 84) d_Tokens_init_81 rfl ⟨_, fo_Tokens_9⟩ sh_4 (by decide) q368 ?_
  refine g_iload_n (pc1 := 85) d_Tokens_init_84 rfl 1 rfl ?_
  refine g_aload_n (pc1 := 86) d_Tokens_init_85 rfl 0 rfl ?_
  refine g_getr (pc1 := 89) d_Tokens_init_86 rfl ⟨_, fo_Tokens_9⟩ sh_4 (by decide) q368 ?_
  refine g_iload_n (pc1 := 90) d_Tokens_init_89 rfl 1 rfl ?_
  refine g_lald (pc1 := 91) d_Tokens_init_90 rfl sh_5 (by decide) (vin_lit (x := 1) (by decide)) ?_
  refine Wp.vall (y := 0) (by rw [show (1 : Int32).toNatClampNeg = 1 from by decide]; exact (Z380 1 (by decide))) ?_
  refine g_iload_n (pc1 := 92) d_Tokens_init_91 rfl 3 rfl ?_
  refine g_callS (pc1 := 95) (E' := (0, 0, 9)) (As := [.long 0, .int 100]) (rest := [.int 1, .ref 5]) d_Tokens_init_92 rfl mo_Tokens_37 ms_Tokens_withLetter (by decide) rfl rfl (Nat.le_of_ble_eq_true rfl) ⟨Nat.le_of_ble_eq_true rfl, Nat.le_of_ble_eq_true rfl⟩ rfl ?_
  refine t0_withLetter ?_
  dsimp only [psh]
  refine Wp.vall (y := 4) (by decide +kernel) ?_
  refine g_last (pc1 := 96) d_Tokens_init_95 rfl sh_5 (by decide) (vin_lit (x := 1) (by decide)) ?_
  rw [show ((1 : Int32).toNatClampNeg) = 1 from by decide]
  refine Wp.topL (fun L382 eL382 => ?_)
  have Z383 : ∀ j : Nat, 1 < j → L382 5 j = 0 := fun j hj => (rdL_ne eL382 (fun q => by omega)).trans (Z380 j (by omega))
  have q384 : L382 5 1 = 4 := rdL_eq eL382
  refine g_iinc (pc1 := 99) (v := 6) (lv' := [(0, .ref 4), (1, .int 1), (2, .int 6), (3, .int 100)]) d_Tokens_init_96 rfl 2 rfl (by decide) (by decide) [1, 2, 0, 3] rfl ?_
  refine g_goto (tgt := 43) d_Tokens_init_99 (by decide) ?_
  refine g_iload_n (pc1 := 44) d_Tokens_init_43 rfl 2 rfl ?_
  refine g_strlen (pc1 := 49) rfl d_Tokens_init_44 d_Tokens_init_46 rfl (Nat.le_of_ble_eq_true rfl) ⟨Nat.le_of_ble_eq_true rfl, Nat.le_of_ble_eq_true rfl⟩ ?_
  refine g_icmp_ge (pc1 := 52) (tgt := 102) d_Tokens_init_49 (by decide) rfl (fun h => absurd h (by decide)) (fun _ => ?_)
  refine g_strchr (pc1 := 58) (v := 105) rfl d_Tokens_init_52 d_Tokens_init_54 d_Tokens_init_55 rfl 2 rfl (by decide) (by decide) (by decide +kernel) (Nat.le_of_ble_eq_true rfl) ⟨Nat.le_of_ble_eq_true rfl, Nat.le_of_ble_eq_true rfl⟩ ?_
  refine g_istore_n (pc1 := 59) (lv' := [(0, .ref 4), (1, .int 1), (2, .int 6), (3, .int 105)]) d_Tokens_init_58 rfl rfl (by decide) [1, 2, 3, 0] rfl ?_
  refine g_iload_n (pc1 := 60) d_Tokens_init_59 rfl 3 rfl ?_
  refine g_bipush (pc1 := 62) (v := 32) d_Tokens_init_60 rfl (by decide) ?_
  refine g_icmp_ne (pc1 := 65) (tgt := 71) d_Tokens_init_62 (by decide) rfl (fun _ => ?_) (fun h => absurd h (by decide))
  refine g_iload_n (pc1 := 72) d_Tokens_init_71 rfl 1 rfl ?_
  refine g_aload_n (pc1 := 73) d_Tokens_init_72 rfl 0 rfl ?_
  refine g_getr (pc1 := 76) d_Tokens_init_73 rfl ⟨_, fo_Tokens_9⟩ sh_4 (by decide) q368 ?_
  refine g_alen (pc1 := 77) (v := 21) d_Tokens_init_76 rfl sh_5 (by decide) (by decide) (by decide) (by decide) ?_
  refine g_icmp_ge (pc1 := 80) (tgt := 96) d_Tokens_init_77 (by decide) rfl (fun h => absurd h (by decide)) (fun _ => ?_)
  refine g_aload_n (pc1 := 81) d_Tokens_init_80 rfl 0 rfl ?_
  refine g_getr (pc1 := 84) d_Tokens_init_81 rfl ⟨_, fo_Tokens_9⟩ sh_4 (by decide) q368 ?_
  refine g_iload_n (pc1 := 85) d_Tokens_init_84 rfl 1 rfl ?_
  refine g_aload_n (pc1 := 86) d_Tokens_init_85 rfl 0 rfl ?_
  refine g_getr (pc1 := 89) d_Tokens_init_86 rfl ⟨_, fo_Tokens_9⟩ sh_4 (by decide) q368 ?_
  refine g_iload_n (pc1 := 90) d_Tokens_init_89 rfl 1 rfl ?_
  refine g_lald (pc1 := 91) d_Tokens_init_90 rfl sh_5 (by decide) (vin_lit (x := 1) (by decide)) ?_
  refine Wp.vall (y := 4) (by rw [show (1 : Int32).toNatClampNeg = 1 from by decide]; exact q384) ?_
  refine g_iload_n (pc1 := 92) d_Tokens_init_91 rfl 3 rfl ?_
  refine g_callS (pc1 := 95) (E' := (0, 0, 9)) (As := [.long 4, .int 105]) (rest := [.int 1, .ref 5]) d_Tokens_init_92 rfl mo_Tokens_37 ms_Tokens_withLetter (by decide) rfl rfl (Nat.le_of_ble_eq_true rfl) ⟨Nat.le_of_ble_eq_true rfl, Nat.le_of_ble_eq_true rfl⟩ rfl ?_
  refine t0_withLetter ?_
  dsimp only [psh]
  refine Wp.vall (y := 137) (by decide +kernel) ?_
  refine g_last (pc1 := 96) d_Tokens_init_95 rfl sh_5 (by decide) (vin_lit (x := 1) (by decide)) ?_
  rw [show ((1 : Int32).toNatClampNeg) = 1 from by decide]
  refine Wp.topL (fun L385 eL385 => ?_)
  have Z386 : ∀ j : Nat, 1 < j → L385 5 j = 0 := fun j hj => (rdL_ne eL385 (fun q => by omega)).trans (Z383 j (by omega))
  have q387 : L385 5 1 = 137 := rdL_eq eL385
  refine g_iinc (pc1 := 99) (v := 7) (lv' := [(0, .ref 4), (1, .int 1), (2, .int 7), (3, .int 105)]) d_Tokens_init_96 rfl 2 rfl (by decide) (by decide) [1, 2, 0, 3] rfl ?_
  refine g_goto (tgt := 43) d_Tokens_init_99 (by decide) ?_
  refine g_iload_n (pc1 := 44) d_Tokens_init_43 rfl 2 rfl ?_
  refine g_strlen (pc1 := 49) rfl d_Tokens_init_44 d_Tokens_init_46 rfl (Nat.le_of_ble_eq_true rfl) ⟨Nat.le_of_ble_eq_true rfl, Nat.le_of_ble_eq_true rfl⟩ ?_
  refine g_icmp_ge (pc1 := 52) (tgt := 102) d_Tokens_init_49 (by decide) rfl (fun h => absurd h (by decide)) (fun _ => ?_)
  refine g_strchr (pc1 := 58) (v := 115) rfl d_Tokens_init_52 d_Tokens_init_54 d_Tokens_init_55 rfl 2 rfl (by decide) (by decide) (by decide +kernel) (Nat.le_of_ble_eq_true rfl) ⟨Nat.le_of_ble_eq_true rfl, Nat.le_of_ble_eq_true rfl⟩ ?_
  refine g_istore_n (pc1 := 59) (lv' := [(0, .ref 4), (1, .int 1), (2, .int 7), (3, .int 115)]) d_Tokens_init_58 rfl rfl (by decide) [1, 2, 3, 0] rfl ?_
  refine g_iload_n (pc1 := 60) d_Tokens_init_59 rfl 3 rfl ?_
  refine g_bipush (pc1 := 62) (v := 32) d_Tokens_init_60 rfl (by decide) ?_
  refine g_icmp_ne (pc1 := 65) (tgt := 71) d_Tokens_init_62 (by decide) rfl (fun _ => ?_) (fun h => absurd h (by decide))
  refine g_iload_n (pc1 := 72) d_Tokens_init_71 rfl 1 rfl ?_
  refine g_aload_n (pc1 := 73) d_Tokens_init_72 rfl 0 rfl ?_
  refine g_getr (pc1 := 76) d_Tokens_init_73 rfl ⟨_, fo_Tokens_9⟩ sh_4 (by decide) q368 ?_
  refine g_alen (pc1 := 77) (v := 21) d_Tokens_init_76 rfl sh_5 (by decide) (by decide) (by decide) (by decide) ?_
  refine g_icmp_ge (pc1 := 80) (tgt := 96) d_Tokens_init_77 (by decide) rfl (fun h => absurd h (by decide)) (fun _ => ?_)
  refine g_aload_n (pc1 := 81) d_Tokens_init_80 rfl 0 rfl ?_
  refine g_getr (pc1 := 84) d_Tokens_init_81 rfl ⟨_, fo_Tokens_9⟩ sh_4 (by decide) q368 ?_
  refine g_iload_n (pc1 := 85) d_Tokens_init_84 rfl 1 rfl ?_
  refine g_aload_n (pc1 := 86) d_Tokens_init_85 rfl 0 rfl ?_
  refine g_getr (pc1 := 89) d_Tokens_init_86 rfl ⟨_, fo_Tokens_9⟩ sh_4 (by decide) q368 ?_
  refine g_iload_n (pc1 := 90) d_Tokens_init_89 rfl 1 rfl ?_
  refine g_lald (pc1 := 91) d_Tokens_init_90 rfl sh_5 (by decide) (vin_lit (x := 1) (by decide)) ?_
  refine Wp.vall (y := 137) (by rw [show (1 : Int32).toNatClampNeg = 1 from by decide]; exact q387) ?_
  refine g_iload_n (pc1 := 92) d_Tokens_init_91 rfl 3 rfl ?_
  refine g_callS (pc1 := 95) (E' := (0, 0, 9)) (As := [.long 137, .int 115]) (rest := [.int 1, .ref 5]) d_Tokens_init_92 rfl mo_Tokens_37 ms_Tokens_withLetter (by decide) rfl rfl (Nat.le_of_ble_eq_true rfl) ⟨Nat.le_of_ble_eq_true rfl, Nat.le_of_ble_eq_true rfl⟩ rfl ?_
  refine t0_withLetter ?_
  dsimp only [psh]
  refine Wp.vall (y := 4403) (by decide +kernel) ?_
  refine g_last (pc1 := 96) d_Tokens_init_95 rfl sh_5 (by decide) (vin_lit (x := 1) (by decide)) ?_
  rw [show ((1 : Int32).toNatClampNeg) = 1 from by decide]
  refine Wp.topL (fun L388 eL388 => ?_)
  have Z389 : ∀ j : Nat, 1 < j → L388 5 j = 0 := fun j hj => (rdL_ne eL388 (fun q => by omega)).trans (Z386 j (by omega))
  have q390 : L388 5 1 = 4403 := rdL_eq eL388
  refine g_iinc (pc1 := 99) (v := 8) (lv' := [(0, .ref 4), (1, .int 1), (2, .int 8), (3, .int 115)]) d_Tokens_init_96 rfl 2 rfl (by decide) (by decide) [1, 2, 0, 3] rfl ?_
  refine g_goto (tgt := 43) d_Tokens_init_99 (by decide) ?_
  refine g_iload_n (pc1 := 44) d_Tokens_init_43 rfl 2 rfl ?_
  refine g_strlen (pc1 := 49) rfl d_Tokens_init_44 d_Tokens_init_46 rfl (Nat.le_of_ble_eq_true rfl) ⟨Nat.le_of_ble_eq_true rfl, Nat.le_of_ble_eq_true rfl⟩ ?_
  refine g_icmp_ge (pc1 := 52) (tgt := 102) d_Tokens_init_49 (by decide) rfl (fun h => absurd h (by decide)) (fun _ => ?_)
  refine g_strchr (pc1 := 58) (v := 104) rfl d_Tokens_init_52 d_Tokens_init_54 d_Tokens_init_55 rfl 2 rfl (by decide) (by decide) (by decide +kernel) (Nat.le_of_ble_eq_true rfl) ⟨Nat.le_of_ble_eq_true rfl, Nat.le_of_ble_eq_true rfl⟩ ?_
  refine g_istore_n (pc1 := 59) (lv' := [(0, .ref 4), (1, .int 1), (2, .int 8), (3, .int 104)]) d_Tokens_init_58 rfl rfl (by decide) [1, 2, 3, 0] rfl ?_
  refine g_iload_n (pc1 := 60) d_Tokens_init_59 rfl 3 rfl ?_
  refine g_bipush (pc1 := 62) (v := 32) d_Tokens_init_60 rfl (by decide) ?_
  refine g_icmp_ne (pc1 := 65) (tgt := 71) d_Tokens_init_62 (by decide) rfl (fun _ => ?_) (fun h => absurd h (by decide))
  refine g_iload_n (pc1 := 72) d_Tokens_init_71 rfl 1 rfl ?_
  refine g_aload_n (pc1 := 73) d_Tokens_init_72 rfl 0 rfl ?_
  refine g_getr (pc1 := 76) d_Tokens_init_73 rfl ⟨_, fo_Tokens_9⟩ sh_4 (by decide) q368 ?_
  refine g_alen (pc1 := 77) (v := 21) d_Tokens_init_76 rfl sh_5 (by decide) (by decide) (by decide) (by decide) ?_
  refine g_icmp_ge (pc1 := 80) (tgt := 96) d_Tokens_init_77 (by decide) rfl (fun h => absurd h (by decide)) (fun _ => ?_)
  refine g_aload_n (pc1 := 81) d_Tokens_init_80 rfl 0 rfl ?_
  refine g_getr (pc1 := 84) d_Tokens_init_81 rfl ⟨_, fo_Tokens_9⟩ sh_4 (by decide) q368 ?_
  refine g_iload_n (pc1 := 85) d_Tokens_init_84 rfl 1 rfl ?_
  refine g_aload_n (pc1 := 86) d_Tokens_init_85 rfl 0 rfl ?_
  refine g_getr (pc1 := 89) d_Tokens_init_86 rfl ⟨_, fo_Tokens_9⟩ sh_4 (by decide) q368 ?_
  refine g_iload_n (pc1 := 90) d_Tokens_init_89 rfl 1 rfl ?_
  refine g_lald (pc1 := 91) d_Tokens_init_90 rfl sh_5 (by decide) (vin_lit (x := 1) (by decide)) ?_
  refine Wp.vall (y := 4403) (by rw [show (1 : Int32).toNatClampNeg = 1 from by decide]; exact q390) ?_
  refine g_iload_n (pc1 := 92) d_Tokens_init_91 rfl 3 rfl ?_
  refine g_callS (pc1 := 95) (E' := (0, 0, 9)) (As := [.long 4403, .int 104]) (rest := [.int 1, .ref 5]) d_Tokens_init_92 rfl mo_Tokens_37 ms_Tokens_withLetter (by decide) rfl rfl (Nat.le_of_ble_eq_true rfl) ⟨Nat.le_of_ble_eq_true rfl, Nat.le_of_ble_eq_true rfl⟩ rfl ?_
  refine t0_withLetter ?_
  dsimp only [psh]
  refine Wp.vall (y := 140904) (by decide +kernel) ?_
  refine g_last (pc1 := 96) d_Tokens_init_95 rfl sh_5 (by decide) (vin_lit (x := 1) (by decide)) ?_
  rw [show ((1 : Int32).toNatClampNeg) = 1 from by decide]
  refine Wp.topL (fun L391 eL391 => ?_)
  have Z392 : ∀ j : Nat, 1 < j → L391 5 j = 0 := fun j hj => (rdL_ne eL391 (fun q => by omega)).trans (Z389 j (by omega))
  have q393 : L391 5 1 = 140904 := rdL_eq eL391
  refine g_iinc (pc1 := 99) (v := 9) (lv' := [(0, .ref 4), (1, .int 1), (2, .int 9), (3, .int 104)]) d_Tokens_init_96 rfl 2 rfl (by decide) (by decide) [1, 2, 0, 3] rfl ?_
  refine g_goto (tgt := 43) d_Tokens_init_99 (by decide) ?_
  refine g_iload_n (pc1 := 44) d_Tokens_init_43 rfl 2 rfl ?_
  refine g_strlen (pc1 := 49) rfl d_Tokens_init_44 d_Tokens_init_46 rfl (Nat.le_of_ble_eq_true rfl) ⟨Nat.le_of_ble_eq_true rfl, Nat.le_of_ble_eq_true rfl⟩ ?_
  refine g_icmp_ge (pc1 := 52) (tgt := 102) d_Tokens_init_49 (by decide) rfl (fun h => absurd h (by decide)) (fun _ => ?_)
  refine g_strchr (pc1 := 58) (v := 32) rfl d_Tokens_init_52 d_Tokens_init_54 d_Tokens_init_55 rfl 2 rfl (by decide) (by decide) (by decide +kernel) (Nat.le_of_ble_eq_true rfl) ⟨Nat.le_of_ble_eq_true rfl, Nat.le_of_ble_eq_true rfl⟩ ?_
  refine g_istore_n (pc1 := 59) (lv' := [(0, .ref 4), (1, .int 1), (2, .int 9), (3, .int 32)]) d_Tokens_init_58 rfl rfl (by decide) [1, 2, 3, 0] rfl ?_
  refine g_iload_n (pc1 := 60) d_Tokens_init_59 rfl 3 rfl ?_
  refine g_bipush (pc1 := 62) (v := 32) d_Tokens_init_60 rfl (by decide) ?_
  refine g_icmp_ne (pc1 := 65) (tgt := 71) d_Tokens_init_62 (by decide) rfl (fun h => absurd h (by decide)) (fun _ => ?_)
  refine g_iinc (pc1 := 68) (v := 2) (lv' := [(0, .ref 4), (1, .int 2), (2, .int 9), (3, .int 32)]) d_Tokens_init_65 rfl 1 rfl (by decide) (by decide) [1, 0, 2, 3] rfl ?_
  refine g_goto (tgt := 96) d_Tokens_init_68 (by decide) ?_
  refine g_iinc (pc1 := 99) (v := 10) (lv' := [(0, .ref 4), (1, .int 2), (2, .int 10), (3, .int 32)]) d_Tokens_init_96 rfl 2 rfl (by decide) (by decide) [1, 2, 0, 3] rfl ?_
  refine g_goto (tgt := 43) d_Tokens_init_99 (by decide) ?_
  refine g_iload_n (pc1 := 44) d_Tokens_init_43 rfl 2 rfl ?_
  refine g_strlen (pc1 := 49) rfl d_Tokens_init_44 d_Tokens_init_46 rfl (Nat.le_of_ble_eq_true rfl) ⟨Nat.le_of_ble_eq_true rfl, Nat.le_of_ble_eq_true rfl⟩ ?_
  refine g_icmp_ge (pc1 := 52) (tgt := 102) d_Tokens_init_49 (by decide) rfl (fun h => absurd h (by decide)) (fun _ => ?_)
  refine g_strchr (pc1 := 58) (v := 103) rfl d_Tokens_init_52 d_Tokens_init_54 d_Tokens_init_55 rfl 2 rfl (by decide) (by decide) (by decide +kernel) (Nat.le_of_ble_eq_true rfl) ⟨Nat.le_of_ble_eq_true rfl, Nat.le_of_ble_eq_true rfl⟩ ?_
  refine g_istore_n (pc1 := 59) (lv' := [(0, .ref 4), (1, .int 2), (2, .int 10), (3, .int 103)]) d_Tokens_init_58 rfl rfl (by decide) [1, 2, 3, 0] rfl ?_
  refine g_iload_n (pc1 := 60) d_Tokens_init_59 rfl 3 rfl ?_
  refine g_bipush (pc1 := 62) (v := 32) d_Tokens_init_60 rfl (by decide) ?_
  refine g_icmp_ne (pc1 := 65) (tgt := 71) d_Tokens_init_62 (by decide) rfl (fun _ => ?_) (fun h => absurd h (by decide))
  refine g_iload_n (pc1 := 72) d_Tokens_init_71 rfl 1 rfl ?_
  refine g_aload_n (pc1 := 73) d_Tokens_init_72 rfl 0 rfl ?_
  refine g_getr (pc1 := 76) d_Tokens_init_73 rfl ⟨_, fo_Tokens_9⟩ sh_4 (by decide) q368 ?_
  refine g_alen (pc1 := 77) (v := 21) d_Tokens_init_76 rfl sh_5 (by decide) (by decide) (by decide) (by decide) ?_
  refine g_icmp_ge (pc1 := 80) (tgt := 96) d_Tokens_init_77 (by decide) rfl (fun h => absurd h (by decide)) (fun _ => ?_)
  refine g_aload_n (pc1 := 81) d_Tokens_init_80 rfl 0 rfl ?_
  refine g_getr (pc1 := 84) d_Tokens_init_81 rfl ⟨_, fo_Tokens_9⟩ sh_4 (by decide) q368 ?_
  refine g_iload_n (pc1 := 85) d_Tokens_init_84 rfl 1 rfl ?_
  refine g_aload_n (pc1 := 86) d_Tokens_init_85 rfl 0 rfl ?_
  refine g_getr (pc1 := 89) d_Tokens_init_86 rfl ⟨_, fo_Tokens_9⟩ sh_4 (by decide) q368 ?_
  refine g_iload_n (pc1 := 90) d_Tokens_init_89 rfl 1 rfl ?_
  refine g_lald (pc1 := 91) d_Tokens_init_90 rfl sh_5 (by decide) (vin_lit (x := 2) (by decide)) ?_
  refine Wp.vall (y := 0) (by rw [show (2 : Int32).toNatClampNeg = 2 from by decide]; exact (Z392 2 (by decide))) ?_
  refine g_iload_n (pc1 := 92) d_Tokens_init_91 rfl 3 rfl ?_
  refine g_callS (pc1 := 95) (E' := (0, 0, 9)) (As := [.long 0, .int 103]) (rest := [.int 2, .ref 5]) d_Tokens_init_92 rfl mo_Tokens_37 ms_Tokens_withLetter (by decide) rfl rfl (Nat.le_of_ble_eq_true rfl) ⟨Nat.le_of_ble_eq_true rfl, Nat.le_of_ble_eq_true rfl⟩ rfl ?_
  refine t0_withLetter ?_
  dsimp only [psh]
  refine Wp.vall (y := 7) (by decide +kernel) ?_
  refine g_last (pc1 := 96) d_Tokens_init_95 rfl sh_5 (by decide) (vin_lit (x := 2) (by decide)) ?_
  rw [show ((2 : Int32).toNatClampNeg) = 2 from by decide]
  refine Wp.topL (fun L394 eL394 => ?_)
  have Z395 : ∀ j : Nat, 2 < j → L394 5 j = 0 := fun j hj => (rdL_ne eL394 (fun q => by omega)).trans (Z392 j (by omega))
  have q396 : L394 5 2 = 7 := rdL_eq eL394
  refine g_iinc (pc1 := 99) (v := 11) (lv' := [(0, .ref 4), (1, .int 2), (2, .int 11), (3, .int 103)]) d_Tokens_init_96 rfl 2 rfl (by decide) (by decide) [1, 2, 0, 3] rfl ?_
  refine g_goto (tgt := 43) d_Tokens_init_99 (by decide) ?_
  refine g_iload_n (pc1 := 44) d_Tokens_init_43 rfl 2 rfl ?_
  refine g_strlen (pc1 := 49) rfl d_Tokens_init_44 d_Tokens_init_46 rfl (Nat.le_of_ble_eq_true rfl) ⟨Nat.le_of_ble_eq_true rfl, Nat.le_of_ble_eq_true rfl⟩ ?_
  refine g_icmp_ge (pc1 := 52) (tgt := 102) d_Tokens_init_49 (by decide) rfl (fun h => absurd h (by decide)) (fun _ => ?_)
  refine g_strchr (pc1 := 58) (v := 117) rfl d_Tokens_init_52 d_Tokens_init_54 d_Tokens_init_55 rfl 2 rfl (by decide) (by decide) (by decide +kernel) (Nat.le_of_ble_eq_true rfl) ⟨Nat.le_of_ble_eq_true rfl, Nat.le_of_ble_eq_true rfl⟩ ?_
  refine g_istore_n (pc1 := 59) (lv' := [(0, .ref 4), (1, .int 2), (2, .int 11), (3, .int 117)]) d_Tokens_init_58 rfl rfl (by decide) [1, 2, 3, 0] rfl ?_
  refine g_iload_n (pc1 := 60) d_Tokens_init_59 rfl 3 rfl ?_
  refine g_bipush (pc1 := 62) (v := 32) d_Tokens_init_60 rfl (by decide) ?_
  refine g_icmp_ne (pc1 := 65) (tgt := 71) d_Tokens_init_62 (by decide) rfl (fun _ => ?_) (fun h => absurd h (by decide))
  refine g_iload_n (pc1 := 72) d_Tokens_init_71 rfl 1 rfl ?_
  refine g_aload_n (pc1 := 73) d_Tokens_init_72 rfl 0 rfl ?_
  refine g_getr (pc1 := 76) d_Tokens_init_73 rfl ⟨_, fo_Tokens_9⟩ sh_4 (by decide) q368 ?_
  refine g_alen (pc1 := 77) (v := 21) d_Tokens_init_76 rfl sh_5 (by decide) (by decide) (by decide) (by decide) ?_
  refine g_icmp_ge (pc1 := 80) (tgt := 96) d_Tokens_init_77 (by decide) rfl (fun h => absurd h (by decide)) (fun _ => ?_)
  refine g_aload_n (pc1 := 81) d_Tokens_init_80 rfl 0 rfl ?_
  refine g_getr (pc1 := 84) d_Tokens_init_81 rfl ⟨_, fo_Tokens_9⟩ sh_4 (by decide) q368 ?_
  refine g_iload_n (pc1 := 85) d_Tokens_init_84 rfl 1 rfl ?_
  refine g_aload_n (pc1 := 86) d_Tokens_init_85 rfl 0 rfl ?_
  refine g_getr (pc1 := 89) d_Tokens_init_86 rfl ⟨_, fo_Tokens_9⟩ sh_4 (by decide) q368 ?_
  refine g_iload_n (pc1 := 90) d_Tokens_init_89 rfl 1 rfl ?_
  refine g_lald (pc1 := 91) d_Tokens_init_90 rfl sh_5 (by decide) (vin_lit (x := 2) (by decide)) ?_
  refine Wp.vall (y := 7) (by rw [show (2 : Int32).toNatClampNeg = 2 from by decide]; exact q396) ?_
  refine g_iload_n (pc1 := 92) d_Tokens_init_91 rfl 3 rfl ?_
  refine g_callS (pc1 := 95) (E' := (0, 0, 9)) (As := [.long 7, .int 117]) (rest := [.int 2, .ref 5]) d_Tokens_init_92 rfl mo_Tokens_37 ms_Tokens_withLetter (by decide) rfl rfl (Nat.le_of_ble_eq_true rfl) ⟨Nat.le_of_ble_eq_true rfl, Nat.le_of_ble_eq_true rfl⟩ rfl ?_
  refine t0_withLetter ?_
  dsimp only [psh]
  refine Wp.vall (y := 245) (by decide +kernel) ?_
  refine g_last (pc1 := 96) d_Tokens_init_95 rfl sh_5 (by decide) (vin_lit (x := 2) (by decide)) ?_
  rw [show ((2 : Int32).toNatClampNeg) = 2 from by decide]
  refine Wp.topL (fun L397 eL397 => ?_)
  have Z398 : ∀ j : Nat, 2 < j → L397 5 j = 0 := fun j hj => (rdL_ne eL397 (fun q => by omega)).trans (Z395 j (by omega))
  have q399 : L397 5 2 = 245 := rdL_eq eL397
  refine g_iinc (pc1 := 99) (v := 12) (lv' := [(0, .ref 4), (1, .int 2), (2, .int 12), (3, .int 117)]) d_Tokens_init_96 rfl 2 rfl (by decide) (by decide) [1, 2, 0, 3] rfl ?_
  refine g_goto (tgt := 43) d_Tokens_init_99 (by decide) ?_
  refine g_iload_n (pc1 := 44) d_Tokens_init_43 rfl 2 rfl ?_
  refine g_strlen (pc1 := 49) rfl d_Tokens_init_44 d_Tokens_init_46 rfl (Nat.le_of_ble_eq_true rfl) ⟨Nat.le_of_ble_eq_true rfl, Nat.le_of_ble_eq_true rfl⟩ ?_
  refine g_icmp_ge (pc1 := 52) (tgt := 102) d_Tokens_init_49 (by decide) rfl (fun h => absurd h (by decide)) (fun _ => ?_)
  refine g_strchr (pc1 := 58) (v := 101) rfl d_Tokens_init_52 d_Tokens_init_54 d_Tokens_init_55 rfl 2 rfl (by decide) (by decide) (by decide +kernel) (Nat.le_of_ble_eq_true rfl) ⟨Nat.le_of_ble_eq_true rfl, Nat.le_of_ble_eq_true rfl⟩ ?_
  refine g_istore_n (pc1 := 59) (lv' := [(0, .ref 4), (1, .int 2), (2, .int 12), (3, .int 101)]) d_Tokens_init_58 rfl rfl (by decide) [1, 2, 3, 0] rfl ?_
  refine g_iload_n (pc1 := 60) d_Tokens_init_59 rfl 3 rfl ?_
  refine g_bipush (pc1 := 62) (v := 32) d_Tokens_init_60 rfl (by decide) ?_
  refine g_icmp_ne (pc1 := 65) (tgt := 71) d_Tokens_init_62 (by decide) rfl (fun _ => ?_) (fun h => absurd h (by decide))
  refine g_iload_n (pc1 := 72) d_Tokens_init_71 rfl 1 rfl ?_
  refine g_aload_n (pc1 := 73) d_Tokens_init_72 rfl 0 rfl ?_
  refine g_getr (pc1 := 76) d_Tokens_init_73 rfl ⟨_, fo_Tokens_9⟩ sh_4 (by decide) q368 ?_
  refine g_alen (pc1 := 77) (v := 21) d_Tokens_init_76 rfl sh_5 (by decide) (by decide) (by decide) (by decide) ?_
  refine g_icmp_ge (pc1 := 80) (tgt := 96) d_Tokens_init_77 (by decide) rfl (fun h => absurd h (by decide)) (fun _ => ?_)
  refine g_aload_n (pc1 := 81) d_Tokens_init_80 rfl 0 rfl ?_
  refine g_getr (pc1 := 84) d_Tokens_init_81 rfl ⟨_, fo_Tokens_9⟩ sh_4 (by decide) q368 ?_
  refine g_iload_n (pc1 := 85) d_Tokens_init_84 rfl 1 rfl ?_
  refine g_aload_n (pc1 := 86) d_Tokens_init_85 rfl 0 rfl ?_
  refine g_getr (pc1 := 89) d_Tokens_init_86 rfl ⟨_, fo_Tokens_9⟩ sh_4 (by decide) q368 ?_
  refine g_iload_n (pc1 := 90) d_Tokens_init_89 rfl 1 rfl ?_
  refine g_lald (pc1 := 91) d_Tokens_init_90 rfl sh_5 (by decide) (vin_lit (x := 2) (by decide)) ?_
  refine Wp.vall (y := 245) (by rw [show (2 : Int32).toNatClampNeg = 2 from by decide]; exact q399) ?_
  refine g_iload_n (pc1 := 92) d_Tokens_init_91 rfl 3 rfl ?_
  refine g_callS (pc1 := 95) (E' := (0, 0, 9)) (As := [.long 245, .int 101]) (rest := [.int 2, .ref 5]) d_Tokens_init_92 rfl mo_Tokens_37 ms_Tokens_withLetter (by decide) rfl rfl (Nat.le_of_ble_eq_true rfl) ⟨Nat.le_of_ble_eq_true rfl, Nat.le_of_ble_eq_true rfl⟩ rfl ?_
  refine t0_withLetter ?_
  dsimp only [psh]
  refine Wp.vall (y := 7845) (by decide +kernel) ?_
  refine g_last (pc1 := 96) d_Tokens_init_95 rfl sh_5 (by decide) (vin_lit (x := 2) (by decide)) ?_
  rw [show ((2 : Int32).toNatClampNeg) = 2 from by decide]
  refine Wp.topL (fun L400 eL400 => ?_)
  have Z401 : ∀ j : Nat, 2 < j → L400 5 j = 0 := fun j hj => (rdL_ne eL400 (fun q => by omega)).trans (Z398 j (by omega))
  have q402 : L400 5 2 = 7845 := rdL_eq eL400
  refine g_iinc (pc1 := 99) (v := 13) (lv' := [(0, .ref 4), (1, .int 2), (2, .int 13), (3, .int 101)]) d_Tokens_init_96 rfl 2 rfl (by decide) (by decide) [1, 2, 0, 3] rfl ?_
  refine g_goto (tgt := 43) d_Tokens_init_99 (by decide) ?_
  refine g_iload_n (pc1 := 44) d_Tokens_init_43 rfl 2 rfl ?_
  refine g_strlen (pc1 := 49) rfl d_Tokens_init_44 d_Tokens_init_46 rfl (Nat.le_of_ble_eq_true rfl) ⟨Nat.le_of_ble_eq_true rfl, Nat.le_of_ble_eq_true rfl⟩ ?_
  refine g_icmp_ge (pc1 := 52) (tgt := 102) d_Tokens_init_49 (by decide) rfl (fun h => absurd h (by decide)) (fun _ => ?_)
  refine g_strchr (pc1 := 58) (v := 115) rfl d_Tokens_init_52 d_Tokens_init_54 d_Tokens_init_55 rfl 2 rfl (by decide) (by decide) (by decide +kernel) (Nat.le_of_ble_eq_true rfl) ⟨Nat.le_of_ble_eq_true rfl, Nat.le_of_ble_eq_true rfl⟩ ?_
  refine g_istore_n (pc1 := 59) (lv' := [(0, .ref 4), (1, .int 2), (2, .int 13), (3, .int 115)]) d_Tokens_init_58 rfl rfl (by decide) [1, 2, 3, 0] rfl ?_
  refine g_iload_n (pc1 := 60) d_Tokens_init_59 rfl 3 rfl ?_
  refine g_bipush (pc1 := 62) (v := 32) d_Tokens_init_60 rfl (by decide) ?_
  refine g_icmp_ne (pc1 := 65) (tgt := 71) d_Tokens_init_62 (by decide) rfl (fun _ => ?_) (fun h => absurd h (by decide))
  refine g_iload_n (pc1 := 72) d_Tokens_init_71 rfl 1 rfl ?_
  refine g_aload_n (pc1 := 73) d_Tokens_init_72 rfl 0 rfl ?_
  refine g_getr (pc1 := 76) d_Tokens_init_73 rfl ⟨_, fo_Tokens_9⟩ sh_4 (by decide) q368 ?_
  refine g_alen (pc1 := 77) (v := 21) d_Tokens_init_76 rfl sh_5 (by decide) (by decide) (by decide) (by decide) ?_
  refine g_icmp_ge (pc1 := 80) (tgt := 96) d_Tokens_init_77 (by decide) rfl (fun h => absurd h (by decide)) (fun _ => ?_)
  refine g_aload_n (pc1 := 81) d_Tokens_init_80 rfl 0 rfl ?_
  refine g_getr (pc1 := 84) d_Tokens_init_81 rfl ⟨_, fo_Tokens_9⟩ sh_4 (by decide) q368 ?_
  refine g_iload_n (pc1 := 85) d_Tokens_init_84 rfl 1 rfl ?_
  refine g_aload_n (pc1 := 86) d_Tokens_init_85 rfl 0 rfl ?_
  refine g_getr (pc1 := 89) d_Tokens_init_86 rfl ⟨_, fo_Tokens_9⟩ sh_4 (by decide) q368 ?_
  refine g_iload_n (pc1 := 90) d_Tokens_init_89 rfl 1 rfl ?_
  refine g_lald (pc1 := 91) d_Tokens_init_90 rfl sh_5 (by decide) (vin_lit (x := 2) (by decide)) ?_
  refine Wp.vall (y := 7845) (by rw [show (2 : Int32).toNatClampNeg = 2 from by decide]; exact q402) ?_
  refine g_iload_n (pc1 := 92) d_Tokens_init_91 rfl 3 rfl ?_
  refine g_callS (pc1 := 95) (E' := (0, 0, 9)) (As := [.long 7845, .int 115]) (rest := [.int 2, .ref 5]) d_Tokens_init_92 rfl mo_Tokens_37 ms_Tokens_withLetter (by decide) rfl rfl (Nat.le_of_ble_eq_true rfl) ⟨Nat.le_of_ble_eq_true rfl, Nat.le_of_ble_eq_true rfl⟩ rfl ?_
  refine t0_withLetter ?_
  dsimp only [psh]
  refine Wp.vall (y := 251059) (by decide +kernel) ?_
  refine g_last (pc1 := 96) d_Tokens_init_95 rfl sh_5 (by decide) (vin_lit (x := 2) (by decide)) ?_
  rw [show ((2 : Int32).toNatClampNeg) = 2 from by decide]
  refine Wp.topL (fun L403 eL403 => ?_)
  have Z404 : ∀ j : Nat, 2 < j → L403 5 j = 0 := fun j hj => (rdL_ne eL403 (fun q => by omega)).trans (Z401 j (by omega))
  have q405 : L403 5 2 = 251059 := rdL_eq eL403
  refine g_iinc (pc1 := 99) (v := 14) (lv' := [(0, .ref 4), (1, .int 2), (2, .int 14), (3, .int 115)]) d_Tokens_init_96 rfl 2 rfl (by decide) (by decide) [1, 2, 0, 3] rfl ?_
  refine g_goto (tgt := 43) d_Tokens_init_99 (by decide) ?_
  refine g_iload_n (pc1 := 44) d_Tokens_init_43 rfl 2 rfl ?_
  refine g_strlen (pc1 := 49) rfl d_Tokens_init_44 d_Tokens_init_46 rfl (Nat.le_of_ble_eq_true rfl) ⟨Nat.le_of_ble_eq_true rfl, Nat.le_of_ble_eq_true rfl⟩ ?_
  refine g_icmp_ge (pc1 := 52) (tgt := 102) d_Tokens_init_49 (by decide) rfl (fun h => absurd h (by decide)) (fun _ => ?_)
  refine g_strchr (pc1 := 58) (v := 116) rfl d_Tokens_init_52 d_Tokens_init_54 d_Tokens_init_55 rfl 2 rfl (by decide) (by decide) (by decide +kernel) (Nat.le_of_ble_eq_true rfl) ⟨Nat.le_of_ble_eq_true rfl, Nat.le_of_ble_eq_true rfl⟩ ?_
  refine g_istore_n (pc1 := 59) (lv' := [(0, .ref 4), (1, .int 2), (2, .int 14), (3, .int 116)]) d_Tokens_init_58 rfl rfl (by decide) [1, 2, 3, 0] rfl ?_
  refine g_iload_n (pc1 := 60) d_Tokens_init_59 rfl 3 rfl ?_
  refine g_bipush (pc1 := 62) (v := 32) d_Tokens_init_60 rfl (by decide) ?_
  refine g_icmp_ne (pc1 := 65) (tgt := 71) d_Tokens_init_62 (by decide) rfl (fun _ => ?_) (fun h => absurd h (by decide))
  refine g_iload_n (pc1 := 72) d_Tokens_init_71 rfl 1 rfl ?_
  refine g_aload_n (pc1 := 73) d_Tokens_init_72 rfl 0 rfl ?_
  refine g_getr (pc1 := 76) d_Tokens_init_73 rfl ⟨_, fo_Tokens_9⟩ sh_4 (by decide) q368 ?_
  refine g_alen (pc1 := 77) (v := 21) d_Tokens_init_76 rfl sh_5 (by decide) (by decide) (by decide) (by decide) ?_
  refine g_icmp_ge (pc1 := 80) (tgt := 96) d_Tokens_init_77 (by decide) rfl (fun h => absurd h (by decide)) (fun _ => ?_)
  refine g_aload_n (pc1 := 81) d_Tokens_init_80 rfl 0 rfl ?_
  refine g_getr (pc1 := 84) d_Tokens_init_81 rfl ⟨_, fo_Tokens_9⟩ sh_4 (by decide) q368 ?_
  refine g_iload_n (pc1 := 85) d_Tokens_init_84 rfl 1 rfl ?_
  refine g_aload_n (pc1 := 86) d_Tokens_init_85 rfl 0 rfl ?_
  refine g_getr (pc1 := 89) d_Tokens_init_86 rfl ⟨_, fo_Tokens_9⟩ sh_4 (by decide) q368 ?_
  refine g_iload_n (pc1 := 90) d_Tokens_init_89 rfl 1 rfl ?_
  refine g_lald (pc1 := 91) d_Tokens_init_90 rfl sh_5 (by decide) (vin_lit (x := 2) (by decide)) ?_
  refine Wp.vall (y := 251059) (by rw [show (2 : Int32).toNatClampNeg = 2 from by decide]; exact q405) ?_
  refine g_iload_n (pc1 := 92) d_Tokens_init_91 rfl 3 rfl ?_
  refine g_callS (pc1 := 95) (E' := (0, 0, 9)) (As := [.long 251059, .int 116]) (rest := [.int 2, .ref 5]) d_Tokens_init_92 rfl mo_Tokens_37 ms_Tokens_withLetter (by decide) rfl rfl (Nat.le_of_ble_eq_true rfl) ⟨Nat.le_of_ble_eq_true rfl, Nat.le_of_ble_eq_true rfl⟩ rfl ?_
  refine t0_withLetter ?_
  dsimp only [psh]
  refine Wp.vall (y := 8033908) (by decide +kernel) ?_
  refine g_last (pc1 := 96) d_Tokens_init_95 rfl sh_5 (by decide) (vin_lit (x := 2) (by decide)) ?_
  rw [show ((2 : Int32).toNatClampNeg) = 2 from by decide]
  refine Wp.topL (fun L406 eL406 => ?_)
  have Z407 : ∀ j : Nat, 2 < j → L406 5 j = 0 := fun j hj => (rdL_ne eL406 (fun q => by omega)).trans (Z404 j (by omega))
  have q408 : L406 5 2 = 8033908 := rdL_eq eL406
  refine g_iinc (pc1 := 99) (v := 15) (lv' := [(0, .ref 4), (1, .int 2), (2, .int 15), (3, .int 116)]) d_Tokens_init_96 rfl 2 rfl (by decide) (by decide) [1, 2, 0, 3] rfl ?_
  refine g_goto (tgt := 43) d_Tokens_init_99 (by decide) ?_
  refine g_iload_n (pc1 := 44) d_Tokens_init_43 rfl 2 rfl ?_
  refine g_strlen (pc1 := 49) rfl d_Tokens_init_44 d_Tokens_init_46 rfl (Nat.le_of_ble_eq_true rfl) ⟨Nat.le_of_ble_eq_true rfl, Nat.le_of_ble_eq_true rfl⟩ ?_
  refine g_icmp_ge (pc1 := 52) (tgt := 102) d_Tokens_init_49 (by decide) rfl (fun h => absurd h (by decide)) (fun _ => ?_)
  refine g_strchr (pc1 := 58) (v := 32) rfl d_Tokens_init_52 d_Tokens_init_54 d_Tokens_init_55 rfl 2 rfl (by decide) (by decide) (by decide +kernel) (Nat.le_of_ble_eq_true rfl) ⟨Nat.le_of_ble_eq_true rfl, Nat.le_of_ble_eq_true rfl⟩ ?_
  refine g_istore_n (pc1 := 59) (lv' := [(0, .ref 4), (1, .int 2), (2, .int 15), (3, .int 32)]) d_Tokens_init_58 rfl rfl (by decide) [1, 2, 3, 0] rfl ?_
  refine g_iload_n (pc1 := 60) d_Tokens_init_59 rfl 3 rfl ?_
  refine g_bipush (pc1 := 62) (v := 32) d_Tokens_init_60 rfl (by decide) ?_
  refine g_icmp_ne (pc1 := 65) (tgt := 71) d_Tokens_init_62 (by decide) rfl (fun h => absurd h (by decide)) (fun _ => ?_)
  refine g_iinc (pc1 := 68) (v := 3) (lv' := [(0, .ref 4), (1, .int 3), (2, .int 15), (3, .int 32)]) d_Tokens_init_65 rfl 1 rfl (by decide) (by decide) [1, 0, 2, 3] rfl ?_
  refine g_goto (tgt := 96) d_Tokens_init_68 (by decide) ?_
  refine g_iinc (pc1 := 99) (v := 16) (lv' := [(0, .ref 4), (1, .int 3), (2, .int 16), (3, .int 32)]) d_Tokens_init_96 rfl 2 rfl (by decide) (by decide) [1, 2, 0, 3] rfl ?_
  refine g_goto (tgt := 43) d_Tokens_init_99 (by decide) ?_
  refine g_iload_n (pc1 := 44) d_Tokens_init_43 rfl 2 rfl ?_
  refine g_strlen (pc1 := 49) rfl d_Tokens_init_44 d_Tokens_init_46 rfl (Nat.le_of_ble_eq_true rfl) ⟨Nat.le_of_ble_eq_true rfl, Nat.le_of_ble_eq_true rfl⟩ ?_
  refine g_icmp_ge (pc1 := 52) (tgt := 102) d_Tokens_init_49 (by decide) rfl (fun h => absurd h (by decide)) (fun _ => ?_)
  refine g_strchr (pc1 := 58) (v := 100) rfl d_Tokens_init_52 d_Tokens_init_54 d_Tokens_init_55 rfl 2 rfl (by decide) (by decide) (by decide +kernel) (Nat.le_of_ble_eq_true rfl) ⟨Nat.le_of_ble_eq_true rfl, Nat.le_of_ble_eq_true rfl⟩ ?_
  refine g_istore_n (pc1 := 59) (lv' := [(0, .ref 4), (1, .int 3), (2, .int 16), (3, .int 100)]) d_Tokens_init_58 rfl rfl (by decide) [1, 2, 3, 0] rfl ?_
  refine g_iload_n (pc1 := 60) d_Tokens_init_59 rfl 3 rfl ?_
  refine g_bipush (pc1 := 62) (v := 32) d_Tokens_init_60 rfl (by decide) ?_
  refine g_icmp_ne (pc1 := 65) (tgt := 71) d_Tokens_init_62 (by decide) rfl (fun _ => ?_) (fun h => absurd h (by decide))
  refine g_iload_n (pc1 := 72) d_Tokens_init_71 rfl 1 rfl ?_
  refine g_aload_n (pc1 := 73) d_Tokens_init_72 rfl 0 rfl ?_
  refine g_getr (pc1 := 76) d_Tokens_init_73 rfl ⟨_, fo_Tokens_9⟩ sh_4 (by decide) q368 ?_
  refine g_alen (pc1 := 77) (v := 21) d_Tokens_init_76 rfl sh_5 (by decide) (by decide) (by decide) (by decide) ?_
  refine g_icmp_ge (pc1 := 80) (tgt := 96) d_Tokens_init_77 (by decide) rfl (fun h => absurd h (by decide)) (fun _ => ?_)
  refine g_aload_n (pc1 := 81) d_Tokens_init_80 rfl 0 rfl ?_
  refine g_getr (pc1 := 84) d_Tokens_init_81 rfl ⟨_, fo_Tokens_9⟩ sh_4 (by decide) q368 ?_
  refine g_iload_n (pc1 := 85) d_Tokens_init_84 rfl 1 rfl ?_
  refine g_aload_n (pc1 := 86) d_Tokens_init_85 rfl 0 rfl ?_
  refine g_getr (pc1 := 89) d_Tokens_init_86 rfl ⟨_, fo_Tokens_9⟩ sh_4 (by decide) q368 ?_
  refine g_iload_n (pc1 := 90) d_Tokens_init_89 rfl 1 rfl ?_
  refine g_lald (pc1 := 91) d_Tokens_init_90 rfl sh_5 (by decide) (vin_lit (x := 3) (by decide)) ?_
  refine Wp.vall (y := 0) (by rw [show (3 : Int32).toNatClampNeg = 3 from by decide]; exact (Z407 3 (by decide))) ?_
  refine g_iload_n (pc1 := 92) d_Tokens_init_91 rfl 3 rfl ?_
  refine g_callS (pc1 := 95) (E' := (0, 0, 9)) (As := [.long 0, .int 100]) (rest := [.int 3, .ref 5]) d_Tokens_init_92 rfl mo_Tokens_37 ms_Tokens_withLetter (by decide) rfl rfl (Nat.le_of_ble_eq_true rfl) ⟨Nat.le_of_ble_eq_true rfl, Nat.le_of_ble_eq_true rfl⟩ rfl ?_
  refine t0_withLetter ?_
  dsimp only [psh]
  refine Wp.vall (y := 4) (by decide +kernel) ?_
  refine g_last (pc1 := 96) d_Tokens_init_95 rfl sh_5 (by decide) (vin_lit (x := 3) (by decide)) ?_
  rw [show ((3 : Int32).toNatClampNeg) = 3 from by decide]
  refine Wp.topL (fun L409 eL409 => ?_)
  have Z410 : ∀ j : Nat, 3 < j → L409 5 j = 0 := fun j hj => (rdL_ne eL409 (fun q => by omega)).trans (Z407 j (by omega))
  have q411 : L409 5 3 = 4 := rdL_eq eL409
  refine g_iinc (pc1 := 99) (v := 17) (lv' := [(0, .ref 4), (1, .int 3), (2, .int 17), (3, .int 100)]) d_Tokens_init_96 rfl 2 rfl (by decide) (by decide) [1, 2, 0, 3] rfl ?_
  refine g_goto (tgt := 43) d_Tokens_init_99 (by decide) ?_
  refine g_iload_n (pc1 := 44) d_Tokens_init_43 rfl 2 rfl ?_
  refine g_strlen (pc1 := 49) rfl d_Tokens_init_44 d_Tokens_init_46 rfl (Nat.le_of_ble_eq_true rfl) ⟨Nat.le_of_ble_eq_true rfl, Nat.le_of_ble_eq_true rfl⟩ ?_
  refine g_icmp_ge (pc1 := 52) (tgt := 102) d_Tokens_init_49 (by decide) rfl (fun h => absurd h (by decide)) (fun _ => ?_)
  refine g_strchr (pc1 := 58) (v := 101) rfl d_Tokens_init_52 d_Tokens_init_54 d_Tokens_init_55 rfl 2 rfl (by decide) (by decide) (by decide +kernel) (Nat.le_of_ble_eq_true rfl) ⟨Nat.le_of_ble_eq_true rfl, Nat.le_of_ble_eq_true rfl⟩ ?_
  refine g_istore_n (pc1 := 59) (lv' := [(0, .ref 4), (1, .int 3), (2, .int 17), (3, .int 101)]) d_Tokens_init_58 rfl rfl (by decide) [1, 2, 3, 0] rfl ?_
  refine g_iload_n (pc1 := 60) d_Tokens_init_59 rfl 3 rfl ?_
  refine g_bipush (pc1 := 62) (v := 32) d_Tokens_init_60 rfl (by decide) ?_
  refine g_icmp_ne (pc1 := 65) (tgt := 71) d_Tokens_init_62 (by decide) rfl (fun _ => ?_) (fun h => absurd h (by decide))
  refine g_iload_n (pc1 := 72) d_Tokens_init_71 rfl 1 rfl ?_
  refine g_aload_n (pc1 := 73) d_Tokens_init_72 rfl 0 rfl ?_
  refine g_getr (pc1 := 76) d_Tokens_init_73 rfl ⟨_, fo_Tokens_9⟩ sh_4 (by decide) q368 ?_
  refine g_alen (pc1 := 77) (v := 21) d_Tokens_init_76 rfl sh_5 (by decide) (by decide) (by decide) (by decide) ?_
  refine g_icmp_ge (pc1 := 80) (tgt := 96) d_Tokens_init_77 (by decide) rfl (fun h => absurd h (by decide)) (fun _ => ?_)
  refine g_aload_n (pc1 := 81) d_Tokens_init_80 rfl 0 rfl ?_
  refine g_getr (pc1 := 84) d_Tokens_init_81 rfl ⟨_, fo_Tokens_9⟩ sh_4 (by decide) q368 ?_
  refine g_iload_n (pc1 := 85) d_Tokens_init_84 rfl 1 rfl ?_
  refine g_aload_n (pc1 := 86) d_Tokens_init_85 rfl 0 rfl ?_
  refine g_getr (pc1 := 89) d_Tokens_init_86 rfl ⟨_, fo_Tokens_9⟩ sh_4 (by decide) q368 ?_
  refine g_iload_n (pc1 := 90) d_Tokens_init_89 rfl 1 rfl ?_
  refine g_lald (pc1 := 91) d_Tokens_init_90 rfl sh_5 (by decide) (vin_lit (x := 3) (by decide)) ?_
  refine Wp.vall (y := 4) (by rw [show (3 : Int32).toNatClampNeg = 3 from by decide]; exact q411) ?_
  refine g_iload_n (pc1 := 92) d_Tokens_init_91 rfl 3 rfl ?_
  refine g_callS (pc1 := 95) (E' := (0, 0, 9)) (As := [.long 4, .int 101]) (rest := [.int 3, .ref 5]) d_Tokens_init_92 rfl mo_Tokens_37 ms_Tokens_withLetter (by decide) rfl rfl (Nat.le_of_ble_eq_true rfl) ⟨Nat.le_of_ble_eq_true rfl, Nat.le_of_ble_eq_true rfl⟩ rfl ?_
  refine t0_withLetter ?_
  dsimp only [psh]
  refine Wp.vall (y := 133) (by decide +kernel) ?_
  refine g_last (pc1 := 96) d_Tokens_init_95 rfl sh_5 (by decide) (vin_lit (x := 3) (by decide)) ?_
  rw [show ((3 : Int32).toNatClampNeg) = 3 from by decide]
  refine Wp.topL (fun L412 eL412 => ?_)
  have Z413 : ∀ j : Nat, 3 < j → L412 5 j = 0 := fun j hj => (rdL_ne eL412 (fun q => by omega)).trans (Z410 j (by omega))
  have q414 : L412 5 3 = 133 := rdL_eq eL412
  refine g_iinc (pc1 := 99) (v := 18) (lv' := [(0, .ref 4), (1, .int 3), (2, .int 18), (3, .int 101)]) d_Tokens_init_96 rfl 2 rfl (by decide) (by decide) [1, 2, 0, 3] rfl ?_
  refine g_goto (tgt := 43) d_Tokens_init_99 (by decide) ?_
  refine g_iload_n (pc1 := 44) d_Tokens_init_43 rfl 2 rfl ?_
  refine g_strlen (pc1 := 49) rfl d_Tokens_init_44 d_Tokens_init_46 rfl (Nat.le_of_ble_eq_true rfl) ⟨Nat.le_of_ble_eq_true rfl, Nat.le_of_ble_eq_true rfl⟩ ?_
  refine g_icmp_ge (pc1 := 52) (tgt := 102) d_Tokens_init_49 (by decide) rfl (fun h => absurd h (by decide)) (fun _ => ?_)
  refine g_strchr (pc1 := 58) (v := 101) rfl d_Tokens_init_52 d_Tokens_init_54 d_Tokens_init_55 rfl 2 rfl (by decide) (by decide) (by decide +kernel) (Nat.le_of_ble_eq_true rfl) ⟨Nat.le_of_ble_eq_true rfl, Nat.le_of_ble_eq_true rfl⟩ ?_
  refine g_istore_n (pc1 := 59) (lv' := [(0, .ref 4), (1, .int 3), (2, .int 18), (3, .int 101)]) d_Tokens_init_58 rfl rfl (by decide) [1, 2, 3, 0] rfl ?_
  refine g_iload_n (pc1 := 60) d_Tokens_init_59 rfl 3 rfl ?_
  refine g_bipush (pc1 := 62) (v := 32) d_Tokens_init_60 rfl (by decide) ?_
  refine g_icmp_ne (pc1 := 65) (tgt := 71) d_Tokens_init_62 (by decide) rfl (fun _ => ?_) (fun h => absurd h (by decide))
  refine g_iload_n (pc1 := 72) d_Tokens_init_71 rfl 1 rfl ?_
  refine g_aload_n (pc1 := 73) d_Tokens_init_72 rfl 0 rfl ?_
  refine g_getr (pc1 := 76) d_Tokens_init_73 rfl ⟨_, fo_Tokens_9⟩ sh_4 (by decide) q368 ?_
  refine g_alen (pc1 := 77) (v := 21) d_Tokens_init_76 rfl sh_5 (by decide) (by decide) (by decide) (by decide) ?_
  refine g_icmp_ge (pc1 := 80) (tgt := 96) d_Tokens_init_77 (by decide) rfl (fun h => absurd h (by decide)) (fun _ => ?_)
  refine g_aload_n (pc1 := 81) d_Tokens_init_80 rfl 0 rfl ?_
  refine g_getr (pc1 := 84) d_Tokens_init_81 rfl ⟨_, fo_Tokens_9⟩ sh_4 (by decide) q368 ?_
  refine g_iload_n (pc1 := 85) d_Tokens_init_84 rfl 1 rfl ?_
  refine g_aload_n (pc1 := 86) d_Tokens_init_85 rfl 0 rfl ?_
  refine g_getr (pc1 := 89) d_Tokens_init_86 rfl ⟨_, fo_Tokens_9⟩ sh_4 (by decide) q368 ?_
  refine g_iload_n (pc1 := 90) d_Tokens_init_89 rfl 1 rfl ?_
  refine g_lald (pc1 := 91) d_Tokens_init_90 rfl sh_5 (by decide) (vin_lit (x := 3) (by decide)) ?_
  refine Wp.vall (y := 133) (by rw [show (3 : Int32).toNatClampNeg = 3 from by decide]; exact q414) ?_
  refine g_iload_n (pc1 := 92) d_Tokens_init_91 rfl 3 rfl ?_
  refine g_callS (pc1 := 95) (E' := (0, 0, 9)) (As := [.long 133, .int 101]) (rest := [.int 3, .ref 5]) d_Tokens_init_92 rfl mo_Tokens_37 ms_Tokens_withLetter (by decide) rfl rfl (Nat.le_of_ble_eq_true rfl) ⟨Nat.le_of_ble_eq_true rfl, Nat.le_of_ble_eq_true rfl⟩ rfl ?_
  refine t0_withLetter ?_
  dsimp only [psh]
  refine Wp.vall (y := 4261) (by decide +kernel) ?_
  refine g_last (pc1 := 96) d_Tokens_init_95 rfl sh_5 (by decide) (vin_lit (x := 3) (by decide)) ?_
  rw [show ((3 : Int32).toNatClampNeg) = 3 from by decide]
  refine Wp.topL (fun L415 eL415 => ?_)
  have Z416 : ∀ j : Nat, 3 < j → L415 5 j = 0 := fun j hj => (rdL_ne eL415 (fun q => by omega)).trans (Z413 j (by omega))
  have q417 : L415 5 3 = 4261 := rdL_eq eL415
  refine g_iinc (pc1 := 99) (v := 19) (lv' := [(0, .ref 4), (1, .int 3), (2, .int 19), (3, .int 101)]) d_Tokens_init_96 rfl 2 rfl (by decide) (by decide) [1, 2, 0, 3] rfl ?_
  refine g_goto (tgt := 43) d_Tokens_init_99 (by decide) ?_
  refine g_iload_n (pc1 := 44) d_Tokens_init_43 rfl 2 rfl ?_
  refine g_strlen (pc1 := 49) rfl d_Tokens_init_44 d_Tokens_init_46 rfl (Nat.le_of_ble_eq_true rfl) ⟨Nat.le_of_ble_eq_true rfl, Nat.le_of_ble_eq_true rfl⟩ ?_
  refine g_icmp_ge (pc1 := 52) (tgt := 102) d_Tokens_init_49 (by decide) rfl (fun h => absurd h (by decide)) (fun _ => ?_)
  refine g_strchr (pc1 := 58) (v := 100) rfl d_Tokens_init_52 d_Tokens_init_54 d_Tokens_init_55 rfl 2 rfl (by decide) (by decide) (by decide +kernel) (Nat.le_of_ble_eq_true rfl) ⟨Nat.le_of_ble_eq_true rfl, Nat.le_of_ble_eq_true rfl⟩ ?_
  refine g_istore_n (pc1 := 59) (lv' := [(0, .ref 4), (1, .int 3), (2, .int 19), (3, .int 100)]) d_Tokens_init_58 rfl rfl (by decide) [1, 2, 3, 0] rfl ?_
  refine g_iload_n (pc1 := 60) d_Tokens_init_59 rfl 3 rfl ?_
  refine g_bipush (pc1 := 62) (v := 32) d_Tokens_init_60 rfl (by decide) ?_
  refine g_icmp_ne (pc1 := 65) (tgt := 71) d_Tokens_init_62 (by decide) rfl (fun _ => ?_) (fun h => absurd h (by decide))
  refine g_iload_n (pc1 := 72) d_Tokens_init_71 rfl 1 rfl ?_
  refine g_aload_n (pc1 := 73) d_Tokens_init_72 rfl 0 rfl ?_
  refine g_getr (pc1 := 76) d_Tokens_init_73 rfl ⟨_, fo_Tokens_9⟩ sh_4 (by decide) q368 ?_
  refine g_alen (pc1 := 77) (v := 21) d_Tokens_init_76 rfl sh_5 (by decide) (by decide) (by decide) (by decide) ?_
  refine g_icmp_ge (pc1 := 80) (tgt := 96) d_Tokens_init_77 (by decide) rfl (fun h => absurd h (by decide)) (fun _ => ?_)
  refine g_aload_n (pc1 := 81) d_Tokens_init_80 rfl 0 rfl ?_
  refine g_getr (pc1 := 84) d_Tokens_init_81 rfl ⟨_, fo_Tokens_9⟩ sh_4 (by decide) q368 ?_
  refine g_iload_n (pc1 := 85) d_Tokens_init_84 rfl 1 rfl ?_
  refine g_aload_n (pc1 := 86) d_Tokens_init_85 rfl 0 rfl ?_
  refine g_getr (pc1 := 89) d_Tokens_init_86 rfl ⟨_, fo_Tokens_9⟩ sh_4 (by decide) q368 ?_
  refine g_iload_n (pc1 := 90) d_Tokens_init_89 rfl 1 rfl ?_
  refine g_lald (pc1 := 91) d_Tokens_init_90 rfl sh_5 (by decide) (vin_lit (x := 3) (by decide)) ?_
  refine Wp.vall (y := 4261) (by rw [show (3 : Int32).toNatClampNeg = 3 from by decide]; exact q417) ?_
  refine g_iload_n (pc1 := 92) d_Tokens_init_91 rfl 3 rfl ?_
  refine g_callS (pc1 := 95) (E' := (0, 0, 9)) (As := [.long 4261, .int 100]) (rest := [.int 3, .ref 5]) d_Tokens_init_92 rfl mo_Tokens_37 ms_Tokens_withLetter (by decide) rfl rfl (Nat.le_of_ble_eq_true rfl) ⟨Nat.le_of_ble_eq_true rfl, Nat.le_of_ble_eq_true rfl⟩ rfl ?_
  refine t0_withLetter ?_
  dsimp only [psh]
  refine Wp.vall (y := 136356) (by decide +kernel) ?_
  refine g_last (pc1 := 96) d_Tokens_init_95 rfl sh_5 (by decide) (vin_lit (x := 3) (by decide)) ?_
  rw [show ((3 : Int32).toNatClampNeg) = 3 from by decide]
  refine Wp.topL (fun L418 eL418 => ?_)
  have Z419 : ∀ j : Nat, 3 < j → L418 5 j = 0 := fun j hj => (rdL_ne eL418 (fun q => by omega)).trans (Z416 j (by omega))
  have q420 : L418 5 3 = 136356 := rdL_eq eL418
  refine g_iinc (pc1 := 99) (v := 20) (lv' := [(0, .ref 4), (1, .int 3), (2, .int 20), (3, .int 100)]) d_Tokens_init_96 rfl 2 rfl (by decide) (by decide) [1, 2, 0, 3] rfl ?_
  refine g_goto (tgt := 43) d_Tokens_init_99 (by decide) ?_
  refine g_iload_n (pc1 := 44) d_Tokens_init_43 rfl 2 rfl ?_
  refine g_strlen (pc1 := 49) rfl d_Tokens_init_44 d_Tokens_init_46 rfl (Nat.le_of_ble_eq_true rfl) ⟨Nat.le_of_ble_eq_true rfl, Nat.le_of_ble_eq_true rfl⟩ ?_
  refine g_icmp_ge (pc1 := 52) (tgt := 102) d_Tokens_init_49 (by decide) rfl (fun h => absurd h (by decide)) (fun _ => ?_)
  refine g_strchr (pc1 := 58) (v := 32) rfl d_Tokens_init_52 d_Tokens_init_54 d_Tokens_init_55 rfl 2 rfl (by decide) (by decide) (by decide +kernel) (Nat.le_of_ble_eq_true rfl) ⟨Nat.le_of_ble_eq_true rfl, Nat.le_of_ble_eq_true rfl⟩ ?_
  refine g_istore_n (pc1 := 59) (lv' := [(0, .ref 4), (1, .int 3), (2, .int 20), (3, .int 32)]) d_Tokens_init_58 rfl rfl (by decide) [1, 2, 3, 0] rfl ?_
  refine g_iload_n (pc1 := 60) d_Tokens_init_59 rfl 3 rfl ?_
  refine g_bipush (pc1 := 62) (v := 32) d_Tokens_init_60 rfl (by decide) ?_
  refine g_icmp_ne (pc1 := 65) (tgt := 71) d_Tokens_init_62 (by decide) rfl (fun h => absurd h (by decide)) (fun _ => ?_)
  refine g_iinc (pc1 := 68) (v := 4) (lv' := [(0, .ref 4), (1, .int 4), (2, .int 20), (3, .int 32)]) d_Tokens_init_65 rfl 1 rfl (by decide) (by decide) [1, 0, 2, 3] rfl ?_
  refine g_goto (tgt := 96) d_Tokens_init_68 (by decide) ?_
  refine g_iinc (pc1 := 99) (v := 21) (lv' := [(0, .ref 4), (1, .int 4), (2, .int 21), (3, .int 32)]) d_Tokens_init_96 rfl 2 rfl (by decide) (by decide) [1, 2, 0, 3] rfl ?_
  refine g_goto (tgt := 43) d_Tokens_init_99 (by decide) ?_
  refine g_iload_n (pc1 := 44) d_Tokens_init_43 rfl 2 rfl ?_
  refine g_strlen (pc1 := 49) rfl d_Tokens_init_44 d_Tokens_init_46 rfl (Nat.le_of_ble_eq_true rfl) ⟨Nat.le_of_ble_eq_true rfl, Nat.le_of_ble_eq_true rfl⟩ ?_
  refine g_icmp_ge (pc1 := 52) (tgt := 102) d_Tokens_init_49 (by decide) rfl (fun h => absurd h (by decide)) (fun _ => ?_)
  refine g_strchr (pc1 := 58) (v := 102) rfl d_Tokens_init_52 d_Tokens_init_54 d_Tokens_init_55 rfl 2 rfl (by decide) (by decide) (by decide +kernel) (Nat.le_of_ble_eq_true rfl) ⟨Nat.le_of_ble_eq_true rfl, Nat.le_of_ble_eq_true rfl⟩ ?_
  refine g_istore_n (pc1 := 59) (lv' := [(0, .ref 4), (1, .int 4), (2, .int 21), (3, .int 102)]) d_Tokens_init_58 rfl rfl (by decide) [1, 2, 3, 0] rfl ?_
  refine g_iload_n (pc1 := 60) d_Tokens_init_59 rfl 3 rfl ?_
  refine g_bipush (pc1 := 62) (v := 32) d_Tokens_init_60 rfl (by decide) ?_
  refine g_icmp_ne (pc1 := 65) (tgt := 71) d_Tokens_init_62 (by decide) rfl (fun _ => ?_) (fun h => absurd h (by decide))
  refine g_iload_n (pc1 := 72) d_Tokens_init_71 rfl 1 rfl ?_
  refine g_aload_n (pc1 := 73) d_Tokens_init_72 rfl 0 rfl ?_
  refine g_getr (pc1 := 76) d_Tokens_init_73 rfl ⟨_, fo_Tokens_9⟩ sh_4 (by decide) q368 ?_
  refine g_alen (pc1 := 77) (v := 21) d_Tokens_init_76 rfl sh_5 (by decide) (by decide) (by decide) (by decide) ?_
  refine g_icmp_ge (pc1 := 80) (tgt := 96) d_Tokens_init_77 (by decide) rfl (fun h => absurd h (by decide)) (fun _ => ?_)
  refine g_aload_n (pc1 := 81) d_Tokens_init_80 rfl 0 rfl ?_
  refine g_getr (pc1 := 84) d_Tokens_init_81 rfl ⟨_, fo_Tokens_9⟩ sh_4 (by decide) q368 ?_
  refine g_iload_n (pc1 := 85) d_Tokens_init_84 rfl 1 rfl ?_
  refine g_aload_n (pc1 := 86) d_Tokens_init_85 rfl 0 rfl ?_
  refine g_getr (pc1 := 89) d_Tokens_init_86 rfl ⟨_, fo_Tokens_9⟩ sh_4 (by decide) q368 ?_
  refine g_iload_n (pc1 := 90) d_Tokens_init_89 rfl 1 rfl ?_
  refine g_lald (pc1 := 91) d_Tokens_init_90 rfl sh_5 (by decide) (vin_lit (x := 4) (by decide)) ?_
  refine Wp.vall (y := 0) (by rw [show (4 : Int32).toNatClampNeg = 4 from by decide]; exact (Z419 4 (by decide))) ?_
  refine g_iload_n (pc1 := 92) d_Tokens_init_91 rfl 3 rfl ?_
  refine g_callS (pc1 := 95) (E' := (0, 0, 9)) (As := [.long 0, .int 102]) (rest := [.int 4, .ref 5]) d_Tokens_init_92 rfl mo_Tokens_37 ms_Tokens_withLetter (by decide) rfl rfl (Nat.le_of_ble_eq_true rfl) ⟨Nat.le_of_ble_eq_true rfl, Nat.le_of_ble_eq_true rfl⟩ rfl ?_
  refine t0_withLetter ?_
  dsimp only [psh]
  refine Wp.vall (y := 6) (by decide +kernel) ?_
  refine g_last (pc1 := 96) d_Tokens_init_95 rfl sh_5 (by decide) (vin_lit (x := 4) (by decide)) ?_
  rw [show ((4 : Int32).toNatClampNeg) = 4 from by decide]
  refine Wp.topL (fun L421 eL421 => ?_)
  have Z422 : ∀ j : Nat, 4 < j → L421 5 j = 0 := fun j hj => (rdL_ne eL421 (fun q => by omega)).trans (Z419 j (by omega))
  have q423 : L421 5 4 = 6 := rdL_eq eL421
  refine g_iinc (pc1 := 99) (v := 22) (lv' := [(0, .ref 4), (1, .int 4), (2, .int 22), (3, .int 102)]) d_Tokens_init_96 rfl 2 rfl (by decide) (by decide) [1, 2, 0, 3] rfl ?_
  refine g_goto (tgt := 43) d_Tokens_init_99 (by decide) ?_
  refine g_iload_n (pc1 := 44) d_Tokens_init_43 rfl 2 rfl ?_
  refine g_strlen (pc1 := 49) rfl d_Tokens_init_44 d_Tokens_init_46 rfl (Nat.le_of_ble_eq_true rfl) ⟨Nat.le_of_ble_eq_true rfl, Nat.le_of_ble_eq_true rfl⟩ ?_
  refine g_icmp_ge (pc1 := 52) (tgt := 102) d_Tokens_init_49 (by decide) rfl (fun h => absurd h (by decide)) (fun _ => ?_)
  refine g_strchr (pc1 := 58) (v := 111) rfl d_Tokens_init_52 d_Tokens_init_54 d_Tokens_init_55 rfl 2 rfl (by decide) (by decide) (by decide +kernel) (Nat.le_of_ble_eq_true rfl) ⟨Nat.le_of_ble_eq_true rfl, Nat.le_of_ble_eq_true rfl⟩ ?_
  refine g_istore_n (pc1 := 59) (lv' := [(0, .ref 4), (1, .int 4), (2, .int 22), (3, .int 111)]) d_Tokens_init_58 rfl rfl (by decide) [1, 2, 3, 0] rfl ?_
  refine g_iload_n (pc1 := 60) d_Tokens_init_59 rfl 3 rfl ?_
  refine g_bipush (pc1 := 62) (v := 32) d_Tokens_init_60 rfl (by decide) ?_
  refine g_icmp_ne (pc1 := 65) (tgt := 71) d_Tokens_init_62 (by decide) rfl (fun _ => ?_) (fun h => absurd h (by decide))
  refine g_iload_n (pc1 := 72) d_Tokens_init_71 rfl 1 rfl ?_
  refine g_aload_n (pc1 := 73) d_Tokens_init_72 rfl 0 rfl ?_
  refine g_getr (pc1 := 76) d_Tokens_init_73 rfl ⟨_, fo_Tokens_9⟩ sh_4 (by decide) q368 ?_
  refine g_alen (pc1 := 77) (v := 21) d_Tokens_init_76 rfl sh_5 (by decide) (by decide) (by decide) (by decide) ?_
  refine g_icmp_ge (pc1 := 80) (tgt := 96) d_Tokens_init_77 (by decide) rfl (fun h => absurd h (by decide)) (fun _ => ?_)
  refine g_aload_n (pc1 := 81) d_Tokens_init_80 rfl 0 rfl ?_
  refine g_getr (pc1 := 84) d_Tokens_init_81 rfl ⟨_, fo_Tokens_9⟩ sh_4 (by decide) q368 ?_
  refine g_iload_n (pc1 := 85) d_Tokens_init_84 rfl 1 rfl ?_
  refine g_aload_n (pc1 := 86) d_Tokens_init_85 rfl 0 rfl ?_
  refine g_getr (pc1 := 89) d_Tokens_init_86 rfl ⟨_, fo_Tokens_9⟩ sh_4 (by decide) q368 ?_
  refine g_iload_n (pc1 := 90) d_Tokens_init_89 rfl 1 rfl ?_
  refine g_lald (pc1 := 91) d_Tokens_init_90 rfl sh_5 (by decide) (vin_lit (x := 4) (by decide)) ?_
  refine Wp.vall (y := 6) (by rw [show (4 : Int32).toNatClampNeg = 4 from by decide]; exact q423) ?_
  refine g_iload_n (pc1 := 92) d_Tokens_init_91 rfl 3 rfl ?_
  refine g_callS (pc1 := 95) (E' := (0, 0, 9)) (As := [.long 6, .int 111]) (rest := [.int 4, .ref 5]) d_Tokens_init_92 rfl mo_Tokens_37 ms_Tokens_withLetter (by decide) rfl rfl (Nat.le_of_ble_eq_true rfl) ⟨Nat.le_of_ble_eq_true rfl, Nat.le_of_ble_eq_true rfl⟩ rfl ?_
  refine t0_withLetter ?_
  dsimp only [psh]
  refine Wp.vall (y := 207) (by decide +kernel) ?_
  refine g_last (pc1 := 96) d_Tokens_init_95 rfl sh_5 (by decide) (vin_lit (x := 4) (by decide)) ?_
  rw [show ((4 : Int32).toNatClampNeg) = 4 from by decide]
  refine Wp.topL (fun L424 eL424 => ?_)
  have Z425 : ∀ j : Nat, 4 < j → L424 5 j = 0 := fun j hj => (rdL_ne eL424 (fun q => by omega)).trans (Z422 j (by omega))
  have q426 : L424 5 4 = 207 := rdL_eq eL424
  refine g_iinc (pc1 := 99) (v := 23) (lv' := [(0, .ref 4), (1, .int 4), (2, .int 23), (3, .int 111)]) d_Tokens_init_96 rfl 2 rfl (by decide) (by decide) [1, 2, 0, 3] rfl ?_
  refine g_goto (tgt := 43) d_Tokens_init_99 (by decide) ?_
  refine g_iload_n (pc1 := 44) d_Tokens_init_43 rfl 2 rfl ?_
  refine g_strlen (pc1 := 49) rfl d_Tokens_init_44 d_Tokens_init_46 rfl (Nat.le_of_ble_eq_true rfl) ⟨Nat.le_of_ble_eq_true rfl, Nat.le_of_ble_eq_true rfl⟩ ?_
  refine g_icmp_ge (pc1 := 52) (tgt := 102) d_Tokens_init_49 (by decide) rfl (fun h => absurd h (by decide)) (fun _ => ?_)
  refine g_strchr (pc1 := 58) (v := 114) rfl d_Tokens_init_52 d_Tokens_init_54 d_Tokens_init_55 rfl 2 rfl (by decide) (by decide) (by decide +kernel) (Nat.le_of_ble_eq_true rfl) ⟨Nat.le_of_ble_eq_true rfl, Nat.le_of_ble_eq_true rfl⟩ ?_
  refine g_istore_n (pc1 := 59) (lv' := [(0, .ref 4), (1, .int 4), (2, .int 23), (3, .int 114)]) d_Tokens_init_58 rfl rfl (by decide) [1, 2, 3, 0] rfl ?_
  refine g_iload_n (pc1 := 60) d_Tokens_init_59 rfl 3 rfl ?_
  refine g_bipush (pc1 := 62) (v := 32) d_Tokens_init_60 rfl (by decide) ?_
  refine g_icmp_ne (pc1 := 65) (tgt := 71) d_Tokens_init_62 (by decide) rfl (fun _ => ?_) (fun h => absurd h (by decide))
  refine g_iload_n (pc1 := 72) d_Tokens_init_71 rfl 1 rfl ?_
  refine g_aload_n (pc1 := 73) d_Tokens_init_72 rfl 0 rfl ?_
  refine g_getr (pc1 := 76) d_Tokens_init_73 rfl ⟨_, fo_Tokens_9⟩ sh_4 (by decide) q368 ?_
  refine g_alen (pc1 := 77) (v := 21) d_Tokens_init_76 rfl sh_5 (by decide) (by decide) (by decide) (by decide) ?_
  refine g_icmp_ge (pc1 := 80) (tgt := 96) d_Tokens_init_77 (by decide) rfl (fun h => absurd h (by decide)) (fun _ => ?_)
  refine g_aload_n (pc1 := 81) d_Tokens_init_80 rfl 0 rfl ?_
  refine g_getr (pc1 := 84) d_Tokens_init_81 rfl ⟨_, fo_Tokens_9⟩ sh_4 (by decide) q368 ?_
  refine g_iload_n (pc1 := 85) d_Tokens_init_84 rfl 1 rfl ?_
  refine g_aload_n (pc1 := 86) d_Tokens_init_85 rfl 0 rfl ?_
  refine g_getr (pc1 := 89) d_Tokens_init_86 rfl ⟨_, fo_Tokens_9⟩ sh_4 (by decide) q368 ?_
  refine g_iload_n (pc1 := 90) d_Tokens_init_89 rfl 1 rfl ?_
  refine g_lald (pc1 := 91) d_Tokens_init_90 rfl sh_5 (by decide) (vin_lit (x := 4) (by decide)) ?_
  refine Wp.vall (y := 207) (by rw [show (4 : Int32).toNatClampNeg = 4 from by decide]; exact q426) ?_
  refine g_iload_n (pc1 := 92) d_Tokens_init_91 rfl 3 rfl ?_
  refine g_callS (pc1 := 95) (E' := (0, 0, 9)) (As := [.long 207, .int 114]) (rest := [.int 4, .ref 5]) d_Tokens_init_92 rfl mo_Tokens_37 ms_Tokens_withLetter (by decide) rfl rfl (Nat.le_of_ble_eq_true rfl) ⟨Nat.le_of_ble_eq_true rfl, Nat.le_of_ble_eq_true rfl⟩ rfl ?_
  refine t0_withLetter ?_
  dsimp only [psh]
  refine Wp.vall (y := 6642) (by decide +kernel) ?_
  refine g_last (pc1 := 96) d_Tokens_init_95 rfl sh_5 (by decide) (vin_lit (x := 4) (by decide)) ?_
  rw [show ((4 : Int32).toNatClampNeg) = 4 from by decide]
  refine Wp.topL (fun L427 eL427 => ?_)
  have Z428 : ∀ j : Nat, 4 < j → L427 5 j = 0 := fun j hj => (rdL_ne eL427 (fun q => by omega)).trans (Z425 j (by omega))
  have q429 : L427 5 4 = 6642 := rdL_eq eL427
  refine g_iinc (pc1 := 99) (v := 24) (lv' := [(0, .ref 4), (1, .int 4), (2, .int 24), (3, .int 114)]) d_Tokens_init_96 rfl 2 rfl (by decide) (by decide) [1, 2, 0, 3] rfl ?_
  refine g_goto (tgt := 43) d_Tokens_init_99 (by decide) ?_
  refine g_iload_n (pc1 := 44) d_Tokens_init_43 rfl 2 rfl ?_
  refine g_strlen (pc1 := 49) rfl d_Tokens_init_44 d_Tokens_init_46 rfl (Nat.le_of_ble_eq_true rfl) ⟨Nat.le_of_ble_eq_true rfl, Nat.le_of_ble_eq_true rfl⟩ ?_
  refine g_icmp_ge (pc1 := 52) (tgt := 102) d_Tokens_init_49 (by decide) rfl (fun h => absurd h (by decide)) (fun _ => ?_)
  refine g_strchr (pc1 := 58) (v := 99) rfl d_Tokens_init_52 d_Tokens_init_54 d_Tokens_init_55 rfl 2 rfl (by decide) (by decide) (by decide +kernel) (Nat.le_of_ble_eq_true rfl) ⟨Nat.le_of_ble_eq_true rfl, Nat.le_of_ble_eq_true rfl⟩ ?_
  refine g_istore_n (pc1 := 59) (lv' := [(0, .ref 4), (1, .int 4), (2, .int 24), (3, .int 99)]) d_Tokens_init_58 rfl rfl (by decide) [1, 2, 3, 0] rfl ?_
  refine g_iload_n (pc1 := 60) d_Tokens_init_59 rfl 3 rfl ?_
  refine g_bipush (pc1 := 62) (v := 32) d_Tokens_init_60 rfl (by decide) ?_
  refine g_icmp_ne (pc1 := 65) (tgt := 71) d_Tokens_init_62 (by decide) rfl (fun _ => ?_) (fun h => absurd h (by decide))
  refine g_iload_n (pc1 := 72) d_Tokens_init_71 rfl 1 rfl ?_
  refine g_aload_n (pc1 := 73) d_Tokens_init_72 rfl 0 rfl ?_
  refine g_getr (pc1 := 76) d_Tokens_init_73 rfl ⟨_, fo_Tokens_9⟩ sh_4 (by decide) q368 ?_
  refine g_alen (pc1 := 77) (v := 21) d_Tokens_init_76 rfl sh_5 (by decide) (by decide) (by decide) (by decide) ?_
  refine g_icmp_ge (pc1 := 80) (tgt := 96) d_Tokens_init_77 (by decide) rfl (fun h => absurd h (by decide)) (fun _ => ?_)
  refine g_aload_n (pc1 := 81) d_Tokens_init_80 rfl 0 rfl ?_
  refine g_getr (pc1 := 84) d_Tokens_init_81 rfl ⟨_, fo_Tokens_9⟩ sh_4 (by decide) q368 ?_
  refine g_iload_n (pc1 := 85) d_Tokens_init_84 rfl 1 rfl ?_
  refine g_aload_n (pc1 := 86) d_Tokens_init_85 rfl 0 rfl ?_
  refine g_getr (pc1 := 89) d_Tokens_init_86 rfl ⟨_, fo_Tokens_9⟩ sh_4 (by decide) q368 ?_
  refine g_iload_n (pc1 := 90) d_Tokens_init_89 rfl 1 rfl ?_
  refine g_lald (pc1 := 91) d_Tokens_init_90 rfl sh_5 (by decide) (vin_lit (x := 4) (by decide)) ?_
  refine Wp.vall (y := 6642) (by rw [show (4 : Int32).toNatClampNeg = 4 from by decide]; exact q429) ?_
  refine g_iload_n (pc1 := 92) d_Tokens_init_91 rfl 3 rfl ?_
  refine g_callS (pc1 := 95) (E' := (0, 0, 9)) (As := [.long 6642, .int 99]) (rest := [.int 4, .ref 5]) d_Tokens_init_92 rfl mo_Tokens_37 ms_Tokens_withLetter (by decide) rfl rfl (Nat.le_of_ble_eq_true rfl) ⟨Nat.le_of_ble_eq_true rfl, Nat.le_of_ble_eq_true rfl⟩ rfl ?_
  refine t0_withLetter ?_
  dsimp only [psh]
  refine Wp.vall (y := 212547) (by decide +kernel) ?_
  refine g_last (pc1 := 96) d_Tokens_init_95 rfl sh_5 (by decide) (vin_lit (x := 4) (by decide)) ?_
  rw [show ((4 : Int32).toNatClampNeg) = 4 from by decide]
  refine Wp.topL (fun L430 eL430 => ?_)
  have Z431 : ∀ j : Nat, 4 < j → L430 5 j = 0 := fun j hj => (rdL_ne eL430 (fun q => by omega)).trans (Z428 j (by omega))
  have q432 : L430 5 4 = 212547 := rdL_eq eL430
  refine g_iinc (pc1 := 99) (v := 25) (lv' := [(0, .ref 4), (1, .int 4), (2, .int 25), (3, .int 99)]) d_Tokens_init_96 rfl 2 rfl (by decide) (by decide) [1, 2, 0, 3] rfl ?_
  refine g_goto (tgt := 43) d_Tokens_init_99 (by decide) ?_
  refine g_iload_n (pc1 := 44) d_Tokens_init_43 rfl 2 rfl ?_
  refine g_strlen (pc1 := 49) rfl d_Tokens_init_44 d_Tokens_init_46 rfl (Nat.le_of_ble_eq_true rfl) ⟨Nat.le_of_ble_eq_true rfl, Nat.le_of_ble_eq_true rfl⟩ ?_
  refine g_icmp_ge (pc1 := 52) (tgt := 102) d_Tokens_init_49 (by decide) rfl (fun h => absurd h (by decide)) (fun _ => ?_)
  refine g_strchr (pc1 := 58) (v := 101) rfl d_Tokens_init_52 d_Tokens_init_54 d_Tokens_init_55 rfl 2 rfl (by decide) (by decide) (by decide +kernel) (Nat.le_of_ble_eq_true rfl) ⟨Nat.le_of_ble_eq_true rfl, Nat.le_of_ble_eq_true rfl⟩ ?_
  refine g_istore_n (pc1 := 59) (lv' := [(0, .ref 4), (1, .int 4), (2, .int 25), (3, .int 101)]) d_Tokens_init_58 rfl rfl (by decide) [1, 2, 3, 0] rfl ?_
  refine g_iload_n (pc1 := 60) d_Tokens_init_59 rfl 3 rfl ?_
  refine g_bipush (pc1 := 62) (v := 32) d_Tokens_init_60 rfl (by decide) ?_
  refine g_icmp_ne (pc1 := 65) (tgt := 71) d_Tokens_init_62 (by decide) rfl (fun _ => ?_) (fun h => absurd h (by decide))
  refine g_iload_n (pc1 := 72) d_Tokens_init_71 rfl 1 rfl ?_
  refine g_aload_n (pc1 := 73) d_Tokens_init_72 rfl 0 rfl ?_
  refine g_getr (pc1 := 76) d_Tokens_init_73 rfl ⟨_, fo_Tokens_9⟩ sh_4 (by decide) q368 ?_
  refine g_alen (pc1 := 77) (v := 21) d_Tokens_init_76 rfl sh_5 (by decide) (by decide) (by decide) (by decide) ?_
  refine g_icmp_ge (pc1 := 80) (tgt := 96) d_Tokens_init_77 (by decide) rfl (fun h => absurd h (by decide)) (fun _ => ?_)
  refine g_aload_n (pc1 := 81) d_Tokens_init_80 rfl 0 rfl ?_
  refine g_getr (pc1 := 84) d_Tokens_init_81 rfl ⟨_, fo_Tokens_9⟩ sh_4 (by decide) q368 ?_
  refine g_iload_n (pc1 := 85) d_Tokens_init_84 rfl 1 rfl ?_
  refine g_aload_n (pc1 := 86) d_Tokens_init_85 rfl 0 rfl ?_
  refine g_getr (pc1 := 89) d_Tokens_init_86 rfl ⟨_, fo_Tokens_9⟩ sh_4 (by decide) q368 ?_
  refine g_iload_n (pc1 := 90) d_Tokens_init_89 rfl 1 rfl ?_
  refine g_lald (pc1 := 91) d_Tokens_init_90 rfl sh_5 (by decide) (vin_lit (x := 4) (by decide)) ?_
  refine Wp.vall (y := 212547) (by rw [show (4 : Int32).toNatClampNeg = 4 from by decide]; exact q432) ?_
  refine g_iload_n (pc1 := 92) d_Tokens_init_91 rfl 3 rfl ?_
  refine g_callS (pc1 := 95) (E' := (0, 0, 9)) (As := [.long 212547, .int 101]) (rest := [.int 4, .ref 5]) d_Tokens_init_92 rfl mo_Tokens_37 ms_Tokens_withLetter (by decide) rfl rfl (Nat.le_of_ble_eq_true rfl) ⟨Nat.le_of_ble_eq_true rfl, Nat.le_of_ble_eq_true rfl⟩ rfl ?_
  refine t0_withLetter ?_
  dsimp only [psh]
  refine Wp.vall (y := 6801509) (by decide +kernel) ?_
  refine g_last (pc1 := 96) d_Tokens_init_95 rfl sh_5 (by decide) (vin_lit (x := 4) (by decide)) ?_
  rw [show ((4 : Int32).toNatClampNeg) = 4 from by decide]
  refine Wp.topL (fun L433 eL433 => ?_)
  have Z434 : ∀ j : Nat, 4 < j → L433 5 j = 0 := fun j hj => (rdL_ne eL433 (fun q => by omega)).trans (Z431 j (by omega))
  have q435 : L433 5 4 = 6801509 := rdL_eq eL433
  refine g_iinc (pc1 := 99) (v := 26) (lv' := [(0, .ref 4), (1, .int 4), (2, .int 26), (3, .int 101)]) d_Tokens_init_96 rfl 2 rfl (by decide) (by decide) [1, 2, 0, 3] rfl ?_
  refine g_goto (tgt := 43) d_Tokens_init_99 (by decide) ?_
  refine g_iload_n (pc1 := 44) d_Tokens_init_43 rfl 2 rfl ?_
  refine g_strlen (pc1 := 49) rfl d_Tokens_init_44 d_Tokens_init_46 rfl (Nat.le_of_ble_eq_true rfl) ⟨Nat.le_of_ble_eq_true rfl, Nat.le_of_ble_eq_true rfl⟩ ?_
  refine g_icmp_ge (pc1 := 52) (tgt := 102) d_Tokens_init_49 (by decide) rfl (fun h => absurd h (by decide)) (fun _ => ?_)
  refine g_strchr (pc1 := 58) (v := 32) rfl d_Tokens_init_52 d_Tokens_init_54 d_Tokens_init_55 rfl 2 rfl (by decide) (by decide) (by decide +kernel) (Nat.le_of_ble_eq_true rfl) ⟨Nat.le_of_ble_eq_true rfl, Nat.le_of_ble_eq_true rfl⟩ ?_
  refine g_istore_n (pc1 := 59) (lv' := [(0, .ref 4), (1, .int 4), (2, .int 26), (3, .int 32)]) d_Tokens_init_58 rfl rfl (by decide) [1, 2, 3, 0] rfl ?_
  refine g_iload_n (pc1 := 60) d_Tokens_init_59 rfl 3 rfl ?_
  refine g_bipush (pc1 := 62) (v := 32) d_Tokens_init_60 rfl (by decide) ?_
  refine g_icmp_ne (pc1 := 65) (tgt := 71) d_Tokens_init_62 (by decide) rfl (fun h => absurd h (by decide)) (fun _ => ?_)
  refine g_iinc (pc1 := 68) (v := 5) (lv' := [(0, .ref 4), (1, .int 5), (2, .int 26), (3, .int 32)]) d_Tokens_init_65 rfl 1 rfl (by decide) (by decide) [1, 0, 2, 3] rfl ?_
  refine g_goto (tgt := 96) d_Tokens_init_68 (by decide) ?_
  refine g_iinc (pc1 := 99) (v := 27) (lv' := [(0, .ref 4), (1, .int 5), (2, .int 27), (3, .int 32)]) d_Tokens_init_96 rfl 2 rfl (by decide) (by decide) [1, 2, 0, 3] rfl ?_
  refine g_goto (tgt := 43) d_Tokens_init_99 (by decide) ?_
  refine g_iload_n (pc1 := 44) d_Tokens_init_43 rfl 2 rfl ?_
  refine g_strlen (pc1 := 49) rfl d_Tokens_init_44 d_Tokens_init_46 rfl (Nat.le_of_ble_eq_true rfl) ⟨Nat.le_of_ble_eq_true rfl, Nat.le_of_ble_eq_true rfl⟩ ?_
  refine g_icmp_ge (pc1 := 52) (tgt := 102) d_Tokens_init_49 (by decide) rfl (fun h => absurd h (by decide)) (fun _ => ?_)
  refine g_strchr (pc1 := 58) (v := 98) rfl d_Tokens_init_52 d_Tokens_init_54 d_Tokens_init_55 rfl 2 rfl (by decide) (by decide) (by decide +kernel) (Nat.le_of_ble_eq_true rfl) ⟨Nat.le_of_ble_eq_true rfl, Nat.le_of_ble_eq_true rfl⟩ ?_
  refine g_istore_n (pc1 := 59) (lv' := [(0, .ref 4), (1, .int 5), (2, .int 27), (3, .int 98)]) d_Tokens_init_58 rfl rfl (by decide) [1, 2, 3, 0] rfl ?_
  refine g_iload_n (pc1 := 60) d_Tokens_init_59 rfl 3 rfl ?_
  refine g_bipush (pc1 := 62) (v := 32) d_Tokens_init_60 rfl (by decide) ?_
  refine g_icmp_ne (pc1 := 65) (tgt := 71) d_Tokens_init_62 (by decide) rfl (fun _ => ?_) (fun h => absurd h (by decide))
  refine g_iload_n (pc1 := 72) d_Tokens_init_71 rfl 1 rfl ?_
  refine g_aload_n (pc1 := 73) d_Tokens_init_72 rfl 0 rfl ?_
  refine g_getr (pc1 := 76) d_Tokens_init_73 rfl ⟨_, fo_Tokens_9⟩ sh_4 (by decide) q368 ?_
  refine g_alen (pc1 := 77) (v := 21) d_Tokens_init_76 rfl sh_5 (by decide) (by decide) (by decide) (by decide) ?_
  refine g_icmp_ge (pc1 := 80) (tgt := 96) d_Tokens_init_77 (by decide) rfl (fun h => absurd h (by decide)) (fun _ => ?_)
  refine g_aload_n (pc1 := 81) d_Tokens_init_80 rfl 0 rfl ?_
  refine g_getr (pc1 := 84) d_Tokens_init_81 rfl ⟨_, fo_Tokens_9⟩ sh_4 (by decide) q368 ?_
  refine g_iload_n (pc1 := 85) d_Tokens_init_84 rfl 1 rfl ?_
  refine g_aload_n (pc1 := 86) d_Tokens_init_85 rfl 0 rfl ?_
  refine g_getr (pc1 := 89) d_Tokens_init_86 rfl ⟨_, fo_Tokens_9⟩ sh_4 (by decide) q368 ?_
  refine g_iload_n (pc1 := 90) d_Tokens_init_89 rfl 1 rfl ?_
  refine g_lald (pc1 := 91) d_Tokens_init_90 rfl sh_5 (by decide) (vin_lit (x := 5) (by decide)) ?_
  refine Wp.vall (y := 0) (by rw [show (5 : Int32).toNatClampNeg = 5 from by decide]; exact (Z434 5 (by decide))) ?_
  refine g_iload_n (pc1 := 92) d_Tokens_init_91 rfl 3 rfl ?_
  refine g_callS (pc1 := 95) (E' := (0, 0, 9)) (As := [.long 0, .int 98]) (rest := [.int 5, .ref 5]) d_Tokens_init_92 rfl mo_Tokens_37 ms_Tokens_withLetter (by decide) rfl rfl (Nat.le_of_ble_eq_true rfl) ⟨Nat.le_of_ble_eq_true rfl, Nat.le_of_ble_eq_true rfl⟩ rfl ?_
  refine t0_withLetter ?_
  dsimp only [psh]
  refine Wp.vall (y := 2) (by decide +kernel) ?_
  refine g_last (pc1 := 96) d_Tokens_init_95 rfl sh_5 (by decide) (vin_lit (x := 5) (by decide)) ?_
  rw [show ((5 : Int32).toNatClampNeg) = 5 from by decide]
  refine Wp.topL (fun L436 eL436 => ?_)
  have Z437 : ∀ j : Nat, 5 < j → L436 5 j = 0 := fun j hj => (rdL_ne eL436 (fun q => by omega)).trans (Z434 j (by omega))
  have q438 : L436 5 5 = 2 := rdL_eq eL436
  refine g_iinc (pc1 := 99) (v := 28) (lv' := [(0, .ref 4), (1, .int 5), (2, .int 28), (3, .int 98)]) d_Tokens_init_96 rfl 2 rfl (by decide) (by decide) [1, 2, 0, 3] rfl ?_
  refine g_goto (tgt := 43) d_Tokens_init_99 (by decide) ?_
  refine g_iload_n (pc1 := 44) d_Tokens_init_43 rfl 2 rfl ?_
  refine g_strlen (pc1 := 49) rfl d_Tokens_init_44 d_Tokens_init_46 rfl (Nat.le_of_ble_eq_true rfl) ⟨Nat.le_of_ble_eq_true rfl, Nat.le_of_ble_eq_true rfl⟩ ?_
  refine g_icmp_ge (pc1 := 52) (tgt := 102) d_Tokens_init_49 (by decide) rfl (fun h => absurd h (by decide)) (fun _ => ?_)
  refine g_strchr (pc1 := 58) (v := 105) rfl d_Tokens_init_52 d_Tokens_init_54 d_Tokens_init_55 rfl 2 rfl (by decide) (by decide) (by decide +kernel) (Nat.le_of_ble_eq_true rfl) ⟨Nat.le_of_ble_eq_true rfl, Nat.le_of_ble_eq_true rfl⟩ ?_
  refine g_istore_n (pc1 := 59) (lv' := [(0, .ref 4), (1, .int 5), (2, .int 28), (3, .int 105)]) d_Tokens_init_58 rfl rfl (by decide) [1, 2, 3, 0] rfl ?_
  refine g_iload_n (pc1 := 60) d_Tokens_init_59 rfl 3 rfl ?_
  refine g_bipush (pc1 := 62) (v := 32) d_Tokens_init_60 rfl (by decide) ?_
  refine g_icmp_ne (pc1 := 65) (tgt := 71) d_Tokens_init_62 (by decide) rfl (fun _ => ?_) (fun h => absurd h (by decide))
  refine g_iload_n (pc1 := 72) d_Tokens_init_71 rfl 1 rfl ?_
  refine g_aload_n (pc1 := 73) d_Tokens_init_72 rfl 0 rfl ?_
  refine g_getr (pc1 := 76) d_Tokens_init_73 rfl ⟨_, fo_Tokens_9⟩ sh_4 (by decide) q368 ?_
  refine g_alen (pc1 := 77) (v := 21) d_Tokens_init_76 rfl sh_5 (by decide) (by decide) (by decide) (by decide) ?_
  refine g_icmp_ge (pc1 := 80) (tgt := 96) d_Tokens_init_77 (by decide) rfl (fun h => absurd h (by decide)) (fun _ => ?_)
  refine g_aload_n (pc1 := 81) d_Tokens_init_80 rfl 0 rfl ?_
  refine g_getr (pc1 := 84) d_Tokens_init_81 rfl ⟨_, fo_Tokens_9⟩ sh_4 (by decide) q368 ?_
  refine g_iload_n (pc1 := 85) d_Tokens_init_84 rfl 1 rfl ?_
  refine g_aload_n (pc1 := 86) d_Tokens_init_85 rfl 0 rfl ?_
  refine g_getr (pc1 := 89) d_Tokens_init_86 rfl ⟨_, fo_Tokens_9⟩ sh_4 (by decide) q368 ?_
  refine g_iload_n (pc1 := 90) d_Tokens_init_89 rfl 1 rfl ?_
  refine g_lald (pc1 := 91) d_Tokens_init_90 rfl sh_5 (by decide) (vin_lit (x := 5) (by decide)) ?_
  refine Wp.vall (y := 2) (by rw [show (5 : Int32).toNatClampNeg = 5 from by decide]; exact q438) ?_
  refine g_iload_n (pc1 := 92) d_Tokens_init_91 rfl 3 rfl ?_
  refine g_callS (pc1 := 95) (E' := (0, 0, 9)) (As := [.long 2, .int 105]) (rest := [.int 5, .ref 5]) d_Tokens_init_92 rfl mo_Tokens_37 ms_Tokens_withLetter (by decide) rfl rfl (Nat.le_of_ble_eq_true rfl) ⟨Nat.le_of_ble_eq_true rfl, Nat.le_of_ble_eq_true rfl⟩ rfl ?_
  refine t0_withLetter ?_
  dsimp only [psh]
  refine Wp.vall (y := 73) (by decide +kernel) ?_
  refine g_last (pc1 := 96) d_Tokens_init_95 rfl sh_5 (by decide) (vin_lit (x := 5) (by decide)) ?_
  rw [show ((5 : Int32).toNatClampNeg) = 5 from by decide]
  refine Wp.topL (fun L439 eL439 => ?_)
  have Z440 : ∀ j : Nat, 5 < j → L439 5 j = 0 := fun j hj => (rdL_ne eL439 (fun q => by omega)).trans (Z437 j (by omega))
  have q441 : L439 5 5 = 73 := rdL_eq eL439
  refine g_iinc (pc1 := 99) (v := 29) (lv' := [(0, .ref 4), (1, .int 5), (2, .int 29), (3, .int 105)]) d_Tokens_init_96 rfl 2 rfl (by decide) (by decide) [1, 2, 0, 3] rfl ?_
  refine g_goto (tgt := 43) d_Tokens_init_99 (by decide) ?_
  refine g_iload_n (pc1 := 44) d_Tokens_init_43 rfl 2 rfl ?_
  refine g_strlen (pc1 := 49) rfl d_Tokens_init_44 d_Tokens_init_46 rfl (Nat.le_of_ble_eq_true rfl) ⟨Nat.le_of_ble_eq_true rfl, Nat.le_of_ble_eq_true rfl⟩ ?_
  refine g_icmp_ge (pc1 := 52) (tgt := 102) d_Tokens_init_49 (by decide) rfl (fun h => absurd h (by decide)) (fun _ => ?_)
  refine g_strchr (pc1 := 58) (v := 110) rfl d_Tokens_init_52 d_Tokens_init_54 d_Tokens_init_55 rfl 2 rfl (by decide) (by decide) (by decide +kernel) (Nat.le_of_ble_eq_true rfl) ⟨Nat.le_of_ble_eq_true rfl, Nat.le_of_ble_eq_true rfl⟩ ?_
  refine g_istore_n (pc1 := 59) (lv' := [(0, .ref 4), (1, .int 5), (2, .int 29), (3, .int 110)]) d_Tokens_init_58 rfl rfl (by decide) [1, 2, 3, 0] rfl ?_
  refine g_iload_n (pc1 := 60) d_Tokens_init_59 rfl 3 rfl ?_
  refine g_bipush (pc1 := 62) (v := 32) d_Tokens_init_60 rfl (by decide) ?_
  refine g_icmp_ne (pc1 := 65) (tgt := 71) d_Tokens_init_62 (by decide) rfl (fun _ => ?_) (fun h => absurd h (by decide))
  refine g_iload_n (pc1 := 72) d_Tokens_init_71 rfl 1 rfl ?_
  refine g_aload_n (pc1 := 73) d_Tokens_init_72 rfl 0 rfl ?_
  refine g_getr (pc1 := 76) d_Tokens_init_73 rfl ⟨_, fo_Tokens_9⟩ sh_4 (by decide) q368 ?_
  refine g_alen (pc1 := 77) (v := 21) d_Tokens_init_76 rfl sh_5 (by decide) (by decide) (by decide) (by decide) ?_
  refine g_icmp_ge (pc1 := 80) (tgt := 96) d_Tokens_init_77 (by decide) rfl (fun h => absurd h (by decide)) (fun _ => ?_)
  refine g_aload_n (pc1 := 81) d_Tokens_init_80 rfl 0 rfl ?_
  refine g_getr (pc1 := 84) d_Tokens_init_81 rfl ⟨_, fo_Tokens_9⟩ sh_4 (by decide) q368 ?_
  refine g_iload_n (pc1 := 85) d_Tokens_init_84 rfl 1 rfl ?_
  refine g_aload_n (pc1 := 86) d_Tokens_init_85 rfl 0 rfl ?_
  refine g_getr (pc1 := 89) d_Tokens_init_86 rfl ⟨_, fo_Tokens_9⟩ sh_4 (by decide) q368 ?_
  refine g_iload_n (pc1 := 90) d_Tokens_init_89 rfl 1 rfl ?_
  refine g_lald (pc1 := 91) d_Tokens_init_90 rfl sh_5 (by decide) (vin_lit (x := 5) (by decide)) ?_
  refine Wp.vall (y := 73) (by rw [show (5 : Int32).toNatClampNeg = 5 from by decide]; exact q441) ?_
  refine g_iload_n (pc1 := 92) d_Tokens_init_91 rfl 3 rfl ?_
  refine g_callS (pc1 := 95) (E' := (0, 0, 9)) (As := [.long 73, .int 110]) (rest := [.int 5, .ref 5]) d_Tokens_init_92 rfl mo_Tokens_37 ms_Tokens_withLetter (by decide) rfl rfl (Nat.le_of_ble_eq_true rfl) ⟨Nat.le_of_ble_eq_true rfl, Nat.le_of_ble_eq_true rfl⟩ rfl ?_
  refine t0_withLetter ?_
  dsimp only [psh]
  refine Wp.vall (y := 2350) (by decide +kernel) ?_
  refine g_last (pc1 := 96) d_Tokens_init_95 rfl sh_5 (by decide) (vin_lit (x := 5) (by decide)) ?_
  rw [show ((5 : Int32).toNatClampNeg) = 5 from by decide]
  refine Wp.topL (fun L442 eL442 => ?_)
  have Z443 : ∀ j : Nat, 5 < j → L442 5 j = 0 := fun j hj => (rdL_ne eL442 (fun q => by omega)).trans (Z440 j (by omega))
  have q444 : L442 5 5 = 2350 := rdL_eq eL442
  refine g_iinc (pc1 := 99) (v := 30) (lv' := [(0, .ref 4), (1, .int 5), (2, .int 30), (3, .int 110)]) d_Tokens_init_96 rfl 2 rfl (by decide) (by decide) [1, 2, 0, 3] rfl ?_
  refine g_goto (tgt := 43) d_Tokens_init_99 (by decide) ?_
  refine g_iload_n (pc1 := 44) d_Tokens_init_43 rfl 2 rfl ?_
  refine g_strlen (pc1 := 49) rfl d_Tokens_init_44 d_Tokens_init_46 rfl (Nat.le_of_ble_eq_true rfl) ⟨Nat.le_of_ble_eq_true rfl, Nat.le_of_ble_eq_true rfl⟩ ?_
  refine g_icmp_ge (pc1 := 52) (tgt := 102) d_Tokens_init_49 (by decide) rfl (fun h => absurd h (by decide)) (fun _ => ?_)
  refine g_strchr (pc1 := 58) (v := 100) rfl d_Tokens_init_52 d_Tokens_init_54 d_Tokens_init_55 rfl 2 rfl (by decide) (by decide) (by decide +kernel) (Nat.le_of_ble_eq_true rfl) ⟨Nat.le_of_ble_eq_true rfl, Nat.le_of_ble_eq_true rfl⟩ ?_
  refine g_istore_n (pc1 := 59) (lv' := [(0, .ref 4), (1, .int 5), (2, .int 30), (3, .int 100)]) d_Tokens_init_58 rfl rfl (by decide) [1, 2, 3, 0] rfl ?_
  refine g_iload_n (pc1 := 60) d_Tokens_init_59 rfl 3 rfl ?_
  refine g_bipush (pc1 := 62) (v := 32) d_Tokens_init_60 rfl (by decide) ?_
  refine g_icmp_ne (pc1 := 65) (tgt := 71) d_Tokens_init_62 (by decide) rfl (fun _ => ?_) (fun h => absurd h (by decide))
  refine g_iload_n (pc1 := 72) d_Tokens_init_71 rfl 1 rfl ?_
  refine g_aload_n (pc1 := 73) d_Tokens_init_72 rfl 0 rfl ?_
  refine g_getr (pc1 := 76) d_Tokens_init_73 rfl ⟨_, fo_Tokens_9⟩ sh_4 (by decide) q368 ?_
  refine g_alen (pc1 := 77) (v := 21) d_Tokens_init_76 rfl sh_5 (by decide) (by decide) (by decide) (by decide) ?_
  refine g_icmp_ge (pc1 := 80) (tgt := 96) d_Tokens_init_77 (by decide) rfl (fun h => absurd h (by decide)) (fun _ => ?_)
  refine g_aload_n (pc1 := 81) d_Tokens_init_80 rfl 0 rfl ?_
  refine g_getr (pc1 := 84) d_Tokens_init_81 rfl ⟨_, fo_Tokens_9⟩ sh_4 (by decide) q368 ?_
  refine g_iload_n (pc1 := 85) d_Tokens_init_84 rfl 1 rfl ?_
  refine g_aload_n (pc1 := 86) d_Tokens_init_85 rfl 0 rfl ?_
  refine g_getr (pc1 := 89) d_Tokens_init_86 rfl ⟨_, fo_Tokens_9⟩ sh_4 (by decide) q368 ?_
  refine g_iload_n (pc1 := 90) d_Tokens_init_89 rfl 1 rfl ?_
  refine g_lald (pc1 := 91) d_Tokens_init_90 rfl sh_5 (by decide) (vin_lit (x := 5) (by decide)) ?_
  refine Wp.vall (y := 2350) (by rw [show (5 : Int32).toNatClampNeg = 5 from by decide]; exact q444) ?_
  refine g_iload_n (pc1 := 92) d_Tokens_init_91 rfl 3 rfl ?_
  refine g_callS (pc1 := 95) (E' := (0, 0, 9)) (As := [.long 2350, .int 100]) (rest := [.int 5, .ref 5]) d_Tokens_init_92 rfl mo_Tokens_37 ms_Tokens_withLetter (by decide) rfl rfl (Nat.le_of_ble_eq_true rfl) ⟨Nat.le_of_ble_eq_true rfl, Nat.le_of_ble_eq_true rfl⟩ rfl ?_
  refine t0_withLetter ?_
  dsimp only [psh]
  refine Wp.vall (y := 75204) (by decide +kernel) ?_
  refine g_last (pc1 := 96) d_Tokens_init_95 rfl sh_5 (by decide) (vin_lit (x := 5) (by decide)) ?_
  rw [show ((5 : Int32).toNatClampNeg) = 5 from by decide]
  refine Wp.topL (fun L445 eL445 => ?_)
  have Z446 : ∀ j : Nat, 5 < j → L445 5 j = 0 := fun j hj => (rdL_ne eL445 (fun q => by omega)).trans (Z443 j (by omega))
  have q447 : L445 5 5 = 75204 := rdL_eq eL445
  refine g_iinc (pc1 := 99) (v := 31) (lv' := [(0, .ref 4), (1, .int 5), (2, .int 31), (3, .int 100)]) d_Tokens_init_96 rfl 2 rfl (by decide) (by decide) [1, 2, 0, 3] rfl ?_
  refine g_goto (tgt := 43) d_Tokens_init_99 (by decide) ?_
  refine g_iload_n (pc1 := 44) d_Tokens_init_43 rfl 2 rfl ?_
  refine g_strlen (pc1 := 49) rfl d_Tokens_init_44 d_Tokens_init_46 rfl (Nat.le_of_ble_eq_true rfl) ⟨Nat.le_of_ble_eq_true rfl, Nat.le_of_ble_eq_true rfl⟩ ?_
  refine g_icmp_ge (pc1 := 52) (tgt := 102) d_Tokens_init_49 (by decide) rfl (fun h => absurd h (by decide)) (fun _ => ?_)
  refine g_strchr (pc1 := 58) (v := 115) rfl d_Tokens_init_52 d_Tokens_init_54 d_Tokens_init_55 rfl 2 rfl (by decide) (by decide) (by decide +kernel) (Nat.le_of_ble_eq_true rfl) ⟨Nat.le_of_ble_eq_true rfl, Nat.le_of_ble_eq_true rfl⟩ ?_
  refine g_istore_n (pc1 := 59) (lv' := [(0, .ref 4), (1, .int 5), (2, .int 31), (3, .int 115)]) d_Tokens_init_58 rfl rfl (by decide) [1, 2, 3, 0] rfl ?_
  refine g_iload_n (pc1 := 60) d_Tokens_init_59 rfl 3 rfl ?_
  refine g_bipush (pc1 := 62) (v := 32) d_Tokens_init_60 rfl (by decide) ?_
  refine g_icmp_ne (pc1 := 65) (tgt := 71) d_Tokens_init_62 (by decide) rfl (fun _ => ?_) (fun h => absurd h (by decide))
  refine g_iload_n (pc1 := 72) d_Tokens_init_71 rfl 1 rfl ?_
  refine g_aload_n (pc1 := 73) d_Tokens_init_72 rfl 0 rfl ?_
  refine g_getr (pc1 := 76) d_Tokens_init_73 rfl ⟨_, fo_Tokens_9⟩ sh_4 (by decide) q368 ?_
  refine g_alen (pc1 := 77) (v := 21) d_Tokens_init_76 rfl sh_5 (by decide) (by decide) (by decide) (by decide) ?_
  refine g_icmp_ge (pc1 := 80) (tgt := 96) d_Tokens_init_77 (by decide) rfl (fun h => absurd h (by decide)) (fun _ => ?_)
  refine g_aload_n (pc1 := 81) d_Tokens_init_80 rfl 0 rfl ?_
  refine g_getr (pc1 := 84) d_Tokens_init_81 rfl ⟨_, fo_Tokens_9⟩ sh_4 (by decide) q368 ?_
  refine g_iload_n (pc1 := 85) d_Tokens_init_84 rfl 1 rfl ?_
  refine g_aload_n (pc1 := 86) d_Tokens_init_85 rfl 0 rfl ?_
  refine g_getr (pc1 := 89) d_Tokens_init_86 rfl ⟨_, fo_Tokens_9⟩ sh_4 (by decide) q368 ?_
  refine g_iload_n (pc1 := 90) d_Tokens_init_89 rfl 1 rfl ?_
  refine g_lald (pc1 := 91) d_Tokens_init_90 rfl sh_5 (by decide) (vin_lit (x := 5) (by decide)) ?_
  refine Wp.vall (y := 75204) (by rw [show (5 : Int32).toNatClampNeg = 5 from by decide]; exact q447) ?_
  refine g_iload_n (pc1 := 92) d_Tokens_init_91 rfl 3 rfl ?_
  refine g_callS (pc1 := 95) (E' := (0, 0, 9)) (As := [.long 75204, .int 115]) (rest := [.int 5, .ref 5]) d_Tokens_init_92 rfl mo_Tokens_37 ms_Tokens_withLetter (by decide) rfl rfl (Nat.le_of_ble_eq_true rfl) ⟨Nat.le_of_ble_eq_true rfl, Nat.le_of_ble_eq_true rfl⟩ rfl ?_
  refine t0_withLetter ?_
  dsimp only [psh]
  refine Wp.vall (y := 2406547) (by decide +kernel) ?_
  refine g_last (pc1 := 96) d_Tokens_init_95 rfl sh_5 (by decide) (vin_lit (x := 5) (by decide)) ?_
  rw [show ((5 : Int32).toNatClampNeg) = 5 from by decide]
  refine Wp.topL (fun L448 eL448 => ?_)
  have Z449 : ∀ j : Nat, 5 < j → L448 5 j = 0 := fun j hj => (rdL_ne eL448 (fun q => by omega)).trans (Z446 j (by omega))
  have q450 : L448 5 5 = 2406547 := rdL_eq eL448
  refine g_iinc (pc1 := 99) (v := 32) (lv' := [(0, .ref 4), (1, .int 5), (2, .int 32), (3, .int 115)]) d_Tokens_init_96 rfl 2 rfl (by decide) (by decide) [1, 2, 0, 3] rfl ?_
  refine g_goto (tgt := 43) d_Tokens_init_99 (by decide) ?_
  refine g_iload_n (pc1 := 44) d_Tokens_init_43 rfl 2 rfl ?_
  refine g_strlen (pc1 := 49) rfl d_Tokens_init_44 d_Tokens_init_46 rfl (Nat.le_of_ble_eq_true rfl) ⟨Nat.le_of_ble_eq_true rfl, Nat.le_of_ble_eq_true rfl⟩ ?_
  refine g_icmp_ge (pc1 := 52) (tgt := 102) d_Tokens_init_49 (by decide) rfl (fun h => absurd h (by decide)) (fun _ => ?_)
  refine g_strchr (pc1 := 58) (v := 32) rfl d_Tokens_init_52 d_Tokens_init_54 d_Tokens_init_55 rfl 2 rfl (by decide) (by decide) (by decide +kernel) (Nat.le_of_ble_eq_true rfl) ⟨Nat.le_of_ble_eq_true rfl, Nat.le_of_ble_eq_true rfl⟩ ?_
  refine g_istore_n (pc1 := 59) (lv' := [(0, .ref 4), (1, .int 5), (2, .int 32), (3, .int 32)]) d_Tokens_init_58 rfl rfl (by decide) [1, 2, 3, 0] rfl ?_
  refine g_iload_n (pc1 := 60) d_Tokens_init_59 rfl 3 rfl ?_
  refine g_bipush (pc1 := 62) (v := 32) d_Tokens_init_60 rfl (by decide) ?_
  refine g_icmp_ne (pc1 := 65) (tgt := 71) d_Tokens_init_62 (by decide) rfl (fun h => absurd h (by decide)) (fun _ => ?_)
  refine g_iinc (pc1 := 68) (v := 6) (lv' := [(0, .ref 4), (1, .int 6), (2, .int 32), (3, .int 32)]) d_Tokens_init_65 rfl 1 rfl (by decide) (by decide) [1, 0, 2, 3] rfl ?_
  refine g_goto (tgt := 96) d_Tokens_init_68 (by decide) ?_
  refine g_iinc (pc1 := 99) (v := 33) (lv' := [(0, .ref 4), (1, .int 6), (2, .int 33), (3, .int 32)]) d_Tokens_init_96 rfl 2 rfl (by decide) (by decide) [1, 2, 0, 3] rfl ?_
  refine g_goto (tgt := 43) d_Tokens_init_99 (by decide) ?_
  refine g_iload_n (pc1 := 44) d_Tokens_init_43 rfl 2 rfl ?_
  refine g_strlen (pc1 := 49) rfl d_Tokens_init_44 d_Tokens_init_46 rfl (Nat.le_of_ble_eq_true rfl) ⟨Nat.le_of_ble_eq_true rfl, Nat.le_of_ble_eq_true rfl⟩ ?_
  refine g_icmp_ge (pc1 := 52) (tgt := 102) d_Tokens_init_49 (by decide) rfl (fun h => absurd h (by decide)) (fun _ => ?_)
  refine g_strchr (pc1 := 58) (v := 102) rfl d_Tokens_init_52 d_Tokens_init_54 d_Tokens_init_55 rfl 2 rfl (by decide) (by decide) (by decide +kernel) (Nat.le_of_ble_eq_true rfl) ⟨Nat.le_of_ble_eq_true rfl, Nat.le_of_ble_eq_true rfl⟩ ?_
  refine g_istore_n (pc1 := 59) (lv' := [(0, .ref 4), (1, .int 6), (2, .int 33), (3, .int 102)]) d_Tokens_init_58 rfl rfl (by decide) [1, 2, 3, 0] rfl ?_
  refine g_iload_n (pc1 := 60) d_Tokens_init_59 rfl 3 rfl ?_
  refine g_bipush (pc1 := 62) (v := 32) d_Tokens_init_60 rfl (by decide) ?_
  refine g_icmp_ne (pc1 := 65) (tgt := 71) d_Tokens_init_62 (by decide) rfl (fun _ => ?_) (fun h => absurd h (by decide))
  refine g_iload_n (pc1 := 72) d_Tokens_init_71 rfl 1 rfl ?_
  refine g_aload_n (pc1 := 73) d_Tokens_init_72 rfl 0 rfl ?_
  refine g_getr (pc1 := 76) d_Tokens_init_73 rfl ⟨_, fo_Tokens_9⟩ sh_4 (by decide) q368 ?_
  refine g_alen (pc1 := 77) (v := 21) d_Tokens_init_76 rfl sh_5 (by decide) (by decide) (by decide) (by decide) ?_
  refine g_icmp_ge (pc1 := 80) (tgt := 96) d_Tokens_init_77 (by decide) rfl (fun h => absurd h (by decide)) (fun _ => ?_)
  refine g_aload_n (pc1 := 81) d_Tokens_init_80 rfl 0 rfl ?_
  refine g_getr (pc1 := 84) d_Tokens_init_81 rfl ⟨_, fo_Tokens_9⟩ sh_4 (by decide) q368 ?_
  refine g_iload_n (pc1 := 85) d_Tokens_init_84 rfl 1 rfl ?_
  refine g_aload_n (pc1 := 86) d_Tokens_init_85 rfl 0 rfl ?_
  refine g_getr (pc1 := 89) d_Tokens_init_86 rfl ⟨_, fo_Tokens_9⟩ sh_4 (by decide) q368 ?_
  refine g_iload_n (pc1 := 90) d_Tokens_init_89 rfl 1 rfl ?_
  refine g_lald (pc1 := 91) d_Tokens_init_90 rfl sh_5 (by decide) (vin_lit (x := 6) (by decide)) ?_
  refine Wp.vall (y := 0) (by rw [show (6 : Int32).toNatClampNeg = 6 from by decide]; exact (Z449 6 (by decide))) ?_
  refine g_iload_n (pc1 := 92) d_Tokens_init_91 rfl 3 rfl ?_
  refine g_callS (pc1 := 95) (E' := (0, 0, 9)) (As := [.long 0, .int 102]) (rest := [.int 6, .ref 5]) d_Tokens_init_92 rfl mo_Tokens_37 ms_Tokens_withLetter (by decide) rfl rfl (Nat.le_of_ble_eq_true rfl) ⟨Nat.le_of_ble_eq_true rfl, Nat.le_of_ble_eq_true rfl⟩ rfl ?_
  refine t0_withLetter ?_
  dsimp only [psh]
  refine Wp.vall (y := 6) (by decide +kernel) ?_
  refine g_last (pc1 := 96) d_Tokens_init_95 rfl sh_5 (by decide) (vin_lit (x := 6) (by decide)) ?_
  rw [show ((6 : Int32).toNatClampNeg) = 6 from by decide]
  refine Wp.topL (fun L451 eL451 => ?_)
  have Z452 : ∀ j : Nat, 6 < j → L451 5 j = 0 := fun j hj => (rdL_ne eL451 (fun q => by omega)).trans (Z449 j (by omega))
  have q453 : L451 5 6 = 6 := rdL_eq eL451
  refine g_iinc (pc1 := 99) (v := 34) (lv' := [(0, .ref 4), (1, .int 6), (2, .int 34), (3, .int 102)]) d_Tokens_init_96 rfl 2 rfl (by decide) (by decide) [1, 2, 0, 3] rfl ?_
  refine g_goto (tgt := 43) d_Tokens_init_99 (by decide) ?_
  refine g_iload_n (pc1 := 44) d_Tokens_init_43 rfl 2 rfl ?_
  refine g_strlen (pc1 := 49) rfl d_Tokens_init_44 d_Tokens_init_46 rfl (Nat.le_of_ble_eq_true rfl) ⟨Nat.le_of_ble_eq_true rfl, Nat.le_of_ble_eq_true rfl⟩ ?_
  refine g_icmp_ge (pc1 := 52) (tgt := 102) d_Tokens_init_49 (by decide) rfl (fun h => absurd h (by decide)) (fun _ => ?_)
  refine g_strchr (pc1 := 58) (v := 105) rfl d_Tokens_init_52 d_Tokens_init_54 d_Tokens_init_55 rfl 2 rfl (by decide) (by decide) (by decide +kernel) (Nat.le_of_ble_eq_true rfl) ⟨Nat.le_of_ble_eq_true rfl, Nat.le_of_ble_eq_true rfl⟩ ?_
  refine g_istore_n (pc1 := 59) (lv' := [(0, .ref 4), (1, .int 6), (2, .int 34), (3, .int 105)]) d_Tokens_init_58 rfl rfl (by decide) [1, 2, 3, 0] rfl ?_
  refine g_iload_n (pc1 := 60) d_Tokens_init_59 rfl 3 rfl ?_
  refine g_bipush (pc1 := 62) (v := 32) d_Tokens_init_60 rfl (by decide) ?_
  refine g_icmp_ne (pc1 := 65) (tgt := 71) d_Tokens_init_62 (by decide) rfl (fun _ => ?_) (fun h => absurd h (by decide))
  refine g_iload_n (pc1 := 72) d_Tokens_init_71 rfl 1 rfl ?_
  refine g_aload_n (pc1 := 73) d_Tokens_init_72 rfl 0 rfl ?_
  refine g_getr (pc1 := 76) d_Tokens_init_73 rfl ⟨_, fo_Tokens_9⟩ sh_4 (by decide) q368 ?_
  refine g_alen (pc1 := 77) (v := 21) d_Tokens_init_76 rfl sh_5 (by decide) (by decide) (by decide) (by decide) ?_
  refine g_icmp_ge (pc1 := 80) (tgt := 96) d_Tokens_init_77 (by decide) rfl (fun h => absurd h (by decide)) (fun _ => ?_)
  refine g_aload_n (pc1 := 81) d_Tokens_init_80 rfl 0 rfl ?_
  refine g_getr (pc1 := 84) d_Tokens_init_81 rfl ⟨_, fo_Tokens_9⟩ sh_4 (by decide) q368 ?_
  refine g_iload_n (pc1 := 85) d_Tokens_init_84 rfl 1 rfl ?_
  refine g_aload_n (pc1 := 86) d_Tokens_init_85 rfl 0 rfl ?_
  refine g_getr (pc1 := 89) d_Tokens_init_86 rfl ⟨_, fo_Tokens_9⟩ sh_4 (by decide) q368 ?_
  refine g_iload_n (pc1 := 90) d_Tokens_init_89 rfl 1 rfl ?_
  refine g_lald (pc1 := 91) d_Tokens_init_90 rfl sh_5 (by decide) (vin_lit (x := 6) (by decide)) ?_
  refine Wp.vall (y := 6) (by rw [show (6 : Int32).toNatClampNeg = 6 from by decide]; exact q453) ?_
  refine g_iload_n (pc1 := 92) d_Tokens_init_91 rfl 3 rfl ?_
  refine g_callS (pc1 := 95) (E' := (0, 0, 9)) (As := [.long 6, .int 105]) (rest := [.int 6, .ref 5]) d_Tokens_init_92 rfl mo_Tokens_37 ms_Tokens_withLetter (by decide) rfl rfl (Nat.le_of_ble_eq_true rfl) ⟨Nat.le_of_ble_eq_true rfl, Nat.le_of_ble_eq_true rfl⟩ rfl ?_
  refine t0_withLetter ?_
  dsimp only [psh]
  refine Wp.vall (y := 201) (by decide +kernel) ?_
  refine g_last (pc1 := 96) d_Tokens_init_95 rfl sh_5 (by decide) (vin_lit (x := 6) (by decide)) ?_
  rw [show ((6 : Int32).toNatClampNeg) = 6 from by decide]
  refine Wp.topL (fun L454 eL454 => ?_)
  have Z455 : ∀ j : Nat, 6 < j → L454 5 j = 0 := fun j hj => (rdL_ne eL454 (fun q => by omega)).trans (Z452 j (by omega))
  have q456 : L454 5 6 = 201 := rdL_eq eL454
  refine g_iinc (pc1 := 99) (v := 35) (lv' := [(0, .ref 4), (1, .int 6), (2, .int 35), (3, .int 105)]) d_Tokens_init_96 rfl 2 rfl (by decide) (by decide) [1, 2, 0, 3] rfl ?_
  refine g_goto (tgt := 43) d_Tokens_init_99 (by decide) ?_
  refine g_iload_n (pc1 := 44) d_Tokens_init_43 rfl 2 rfl ?_
  refine g_strlen (pc1 := 49) rfl d_Tokens_init_44 d_Tokens_init_46 rfl (Nat.le_of_ble_eq_true rfl) ⟨Nat.le_of_ble_eq_true rfl, Nat.le_of_ble_eq_true rfl⟩ ?_
  refine g_icmp_ge (pc1 := 52) (tgt := 102) d_Tokens_init_49 (by decide) rfl (fun h => absurd h (by decide)) (fun _ => ?_)
  refine g_strchr (pc1 := 58) (v := 108) rfl d_Tokens_init_52 d_Tokens_init_54 d_Tokens_init_55 rfl 2 rfl (by decide) (by decide) (by decide +kernel) (Nat.le_of_ble_eq_true rfl) ⟨Nat.le_of_ble_eq_true rfl, Nat.le_of_ble_eq_true rfl⟩ ?_
  refine g_istore_n (pc1 := 59) (lv' := [(0, .ref 4), (1, .int 6), (2, .int 35), (3, .int 108)]) d_Tokens_init_58 rfl rfl (by decide) [1, 2, 3, 0] rfl ?_
  refine g_iload_n (pc1 := 60) d_Tokens_init_59 rfl 3 rfl ?_
  refine g_bipush (pc1 := 62) (v := 32) d_Tokens_init_60 rfl (by decide) ?_
  refine g_icmp_ne (pc1 := 65) (tgt := 71) d_Tokens_init_62 (by decide) rfl (fun _ => ?_) (fun h => absurd h (by decide))
  refine g_iload_n (pc1 := 72) d_Tokens_init_71 rfl 1 rfl ?_
  refine g_aload_n (pc1 := 73) d_Tokens_init_72 rfl 0 rfl ?_
  refine g_getr (pc1 := 76) d_Tokens_init_73 rfl ⟨_, fo_Tokens_9⟩ sh_4 (by decide) q368 ?_
  refine g_alen (pc1 := 77) (v := 21) d_Tokens_init_76 rfl sh_5 (by decide) (by decide) (by decide) (by decide) ?_
  refine g_icmp_ge (pc1 := 80) (tgt := 96) d_Tokens_init_77 (by decide) rfl (fun h => absurd h (by decide)) (fun _ => ?_)
  refine g_aload_n (pc1 := 81) d_Tokens_init_80 rfl 0 rfl ?_
  refine g_getr (pc1 := 84) d_Tokens_init_81 rfl ⟨_, fo_Tokens_9⟩ sh_4 (by decide) q368 ?_
  refine g_iload_n (pc1 := 85) d_Tokens_init_84 rfl 1 rfl ?_
  refine g_aload_n (pc1 := 86) d_Tokens_init_85 rfl 0 rfl ?_
  refine g_getr (pc1 := 89) d_Tokens_init_86 rfl ⟨_, fo_Tokens_9⟩ sh_4 (by decide) q368 ?_
  refine g_iload_n (pc1 := 90) d_Tokens_init_89 rfl 1 rfl ?_
  refine g_lald (pc1 := 91) d_Tokens_init_90 rfl sh_5 (by decide) (vin_lit (x := 6) (by decide)) ?_
  refine Wp.vall (y := 201) (by rw [show (6 : Int32).toNatClampNeg = 6 from by decide]; exact q456) ?_
  refine g_iload_n (pc1 := 92) d_Tokens_init_91 rfl 3 rfl ?_
  refine g_callS (pc1 := 95) (E' := (0, 0, 9)) (As := [.long 201, .int 108]) (rest := [.int 6, .ref 5]) d_Tokens_init_92 rfl mo_Tokens_37 ms_Tokens_withLetter (by decide) rfl rfl (Nat.le_of_ble_eq_true rfl) ⟨Nat.le_of_ble_eq_true rfl, Nat.le_of_ble_eq_true rfl⟩ rfl ?_
  refine t0_withLetter ?_
  dsimp only [psh]
  refine Wp.vall (y := 6444) (by decide +kernel) ?_
  refine g_last (pc1 := 96) d_Tokens_init_95 rfl sh_5 (by decide) (vin_lit (x := 6) (by decide)) ?_
  rw [show ((6 : Int32).toNatClampNeg) = 6 from by decide]
  refine Wp.topL (fun L457 eL457 => ?_)
  have Z458 : ∀ j : Nat, 6 < j → L457 5 j = 0 := fun j hj => (rdL_ne eL457 (fun q => by omega)).trans (Z455 j (by omega))
  have q459 : L457 5 6 = 6444 := rdL_eq eL457
  refine g_iinc (pc1 := 99) (v := 36) (lv' := [(0, .ref 4), (1, .int 6), (2, .int 36), (3, .int 108)]) d_Tokens_init_96 rfl 2 rfl (by decide) (by decide) [1, 2, 0, 3] rfl ?_
  refine g_goto (tgt := 43) d_Tokens_init_99 (by decide) ?_
  refine g_iload_n (pc1 := 44) d_Tokens_init_43 rfl 2 rfl ?_
  refine g_strlen (pc1 := 49) rfl d_Tokens_init_44 d_Tokens_init_46 rfl (Nat.le_of_ble_eq_true rfl) ⟨Nat.le_of_ble_eq_true rfl, Nat.le_of_ble_eq_true rfl⟩ ?_
  refine g_icmp_ge (pc1 := 52) (tgt := 102) d_Tokens_init_49 (by decide) rfl (fun h => absurd h (by decide)) (fun _ => ?_)
  refine g_strchr (pc1 := 58) (v := 108) rfl d_Tokens_init_52 d_Tokens_init_54 d_Tokens_init_55 rfl 2 rfl (by decide) (by decide) (by decide +kernel) (Nat.le_of_ble_eq_true rfl) ⟨Nat.le_of_ble_eq_true rfl, Nat.le_of_ble_eq_true rfl⟩ ?_
  refine g_istore_n (pc1 := 59) (lv' := [(0, .ref 4), (1, .int 6), (2, .int 36), (3, .int 108)]) d_Tokens_init_58 rfl rfl (by decide) [1, 2, 3, 0] rfl ?_
  refine g_iload_n (pc1 := 60) d_Tokens_init_59 rfl 3 rfl ?_
  refine g_bipush (pc1 := 62) (v := 32) d_Tokens_init_60 rfl (by decide) ?_
  refine g_icmp_ne (pc1 := 65) (tgt := 71) d_Tokens_init_62 (by decide) rfl (fun _ => ?_) (fun h => absurd h (by decide))
  refine g_iload_n (pc1 := 72) d_Tokens_init_71 rfl 1 rfl ?_
  refine g_aload_n (pc1 := 73) d_Tokens_init_72 rfl 0 rfl ?_
  refine g_getr (pc1 := 76) d_Tokens_init_73 rfl ⟨_, fo_Tokens_9⟩ sh_4 (by decide) q368 ?_
  refine g_alen (pc1 := 77) (v := 21) d_Tokens_init_76 rfl sh_5 (by decide) (by decide) (by decide) (by decide) ?_
  refine g_icmp_ge (pc1 := 80) (tgt := 96) d_Tokens_init_77 (by decide) rfl (fun h => absurd h (by decide)) (fun _ => ?_)
  refine g_aload_n (pc1 := 81) d_Tokens_init_80 rfl 0 rfl ?_
  refine g_getr (pc1 := 84) d_Tokens_init_81 rfl ⟨_, fo_Tokens_9⟩ sh_4 (by decide) q368 ?_
  refine g_iload_n (pc1 := 85) d_Tokens_init_84 rfl 1 rfl ?_
  refine g_aload_n (pc1 := 86) d_Tokens_init_85 rfl 0 rfl ?_
  refine g_getr (pc1 := 89) d_Tokens_init_86 rfl ⟨_, fo_Tokens_9⟩ sh_4 (by decide) q368 ?_
  refine g_iload_n (pc1 := 90) d_Tokens_init_89 rfl 1 rfl ?_
  refine g_lald (pc1 := 91) d_Tokens_init_90 rfl sh_5 (by decide) (vin_lit (x := 6) (by decide)) ?_
  refine Wp.vall (y := 6444) (by rw [show (6 : Int32).toNatClampNeg = 6 from by decide]; exact q459) ?_
  refine g_iload_n (pc1 := 92) d_Tokens_init_91 rfl 3 rfl ?_
  refine g_callS (pc1 := 95) (E' := (0, 0, 9)) (As := [.long 6444, .int 108]) (rest := [.int 6, .ref 5]) d_Tokens_init_92 rfl mo_Tokens_37 ms_Tokens_withLetter (by decide) rfl rfl (Nat.le_of_ble_eq_true rfl) ⟨Nat.le_of_ble_eq_true rfl, Nat.le_of_ble_eq_true rfl⟩ rfl ?_
  refine t0_withLetter ?_
  dsimp only [psh]
  refine Wp.vall (y := 206220) (by decide +kernel) ?_
  refine g_last (pc1 := 96) d_Tokens_init_95 rfl sh_5 (by decide) (vin_lit (x := 6) (by decide)) ?_
  rw [show ((6 : Int32).toNatClampNeg) = 6 from by decide]
  refine Wp.topL (fun L460 eL460 => ?_)
  have Z461 : ∀ j : Nat, 6 < j → L460 5 j = 0 := fun j hj => (rdL_ne eL460 (fun q => by omega)).trans (Z458 j (by omega))
  have q462 : L460 5 6 = 206220 := rdL_eq eL460
  refine g_iinc (pc1 := 99) (v := 37) (lv' := [(0, .ref 4), (1, .int 6), (2, .int 37), (3, .int 108)]) d_Tokens_init_96 rfl 2 rfl (by decide) (by decide) [1, 2, 0, 3] rfl ?_
  refine g_goto (tgt := 43) d_Tokens_init_99 (by decide) ?_
  refine g_iload_n (pc1 := 44) d_Tokens_init_43 rfl 2 rfl ?_
  refine g_strlen (pc1 := 49) rfl d_Tokens_init_44 d_Tokens_init_46 rfl (Nat.le_of_ble_eq_true rfl) ⟨Nat.le_of_ble_eq_true rfl, Nat.le_of_ble_eq_true rfl⟩ ?_
  refine g_icmp_ge (pc1 := 52) (tgt := 102) d_Tokens_init_49 (by decide) rfl (fun h => absurd h (by decide)) (fun _ => ?_)
  refine g_strchr (pc1 := 58) (v := 115) rfl d_Tokens_init_52 d_Tokens_init_54 d_Tokens_init_55 rfl 2 rfl (by decide) (by decide) (by decide +kernel) (Nat.le_of_ble_eq_true rfl) ⟨Nat.le_of_ble_eq_true rfl, Nat.le_of_ble_eq_true rfl⟩ ?_
  refine g_istore_n (pc1 := 59) (lv' := [(0, .ref 4), (1, .int 6), (2, .int 37), (3, .int 115)]) d_Tokens_init_58 rfl rfl (by decide) [1, 2, 3, 0] rfl ?_
  refine g_iload_n (pc1 := 60) d_Tokens_init_59 rfl 3 rfl ?_
  refine g_bipush (pc1 := 62) (v := 32) d_Tokens_init_60 rfl (by decide) ?_
  refine g_icmp_ne (pc1 := 65) (tgt := 71) d_Tokens_init_62 (by decide) rfl (fun _ => ?_) (fun h => absurd h (by decide))
  refine g_iload_n (pc1 := 72) d_Tokens_init_71 rfl 1 rfl ?_
  refine g_aload_n (pc1 := 73) d_Tokens_init_72 rfl 0 rfl ?_
  refine g_getr (pc1 := 76) d_Tokens_init_73 rfl ⟨_, fo_Tokens_9⟩ sh_4 (by decide) q368 ?_
  refine g_alen (pc1 := 77) (v := 21) d_Tokens_init_76 rfl sh_5 (by decide) (by decide) (by decide) (by decide) ?_
  refine g_icmp_ge (pc1 := 80) (tgt := 96) d_Tokens_init_77 (by decide) rfl (fun h => absurd h (by decide)) (fun _ => ?_)
  refine g_aload_n (pc1 := 81) d_Tokens_init_80 rfl 0 rfl ?_
  refine g_getr (pc1 := 84) d_Tokens_init_81 rfl ⟨_, fo_Tokens_9⟩ sh_4 (by decide) q368 ?_
  refine g_iload_n (pc1 := 85) d_Tokens_init_84 rfl 1 rfl ?_
  refine g_aload_n (pc1 := 86) d_Tokens_init_85 rfl 0 rfl ?_
  refine g_getr (pc1 := 89) d_Tokens_init_86 rfl ⟨_, fo_Tokens_9⟩ sh_4 (by decide) q368 ?_
  refine g_iload_n (pc1 := 90) d_Tokens_init_89 rfl 1 rfl ?_
  refine g_lald (pc1 := 91) d_Tokens_init_90 rfl sh_5 (by decide) (vin_lit (x := 6) (by decide)) ?_
  refine Wp.vall (y := 206220) (by rw [show (6 : Int32).toNatClampNeg = 6 from by decide]; exact q462) ?_
  refine g_iload_n (pc1 := 92) d_Tokens_init_91 rfl 3 rfl ?_
  refine g_callS (pc1 := 95) (E' := (0, 0, 9)) (As := [.long 206220, .int 115]) (rest := [.int 6, .ref 5]) d_Tokens_init_92 rfl mo_Tokens_37 ms_Tokens_withLetter (by decide) rfl rfl (Nat.le_of_ble_eq_true rfl) ⟨Nat.le_of_ble_eq_true rfl, Nat.le_of_ble_eq_true rfl⟩ rfl ?_
  refine t0_withLetter ?_
  dsimp only [psh]
  refine Wp.vall (y := 6599059) (by decide +kernel) ?_
  refine g_last (pc1 := 96) d_Tokens_init_95 rfl sh_5 (by decide) (vin_lit (x := 6) (by decide)) ?_
  rw [show ((6 : Int32).toNatClampNeg) = 6 from by decide]
  refine Wp.topL (fun L463 eL463 => ?_)
  have Z464 : ∀ j : Nat, 6 < j → L463 5 j = 0 := fun j hj => (rdL_ne eL463 (fun q => by omega)).trans (Z461 j (by omega))
  have q465 : L463 5 6 = 6599059 := rdL_eq eL463
  refine g_iinc (pc1 := 99) (v := 38) (lv' := [(0, .ref 4), (1, .int 6), (2, .int 38), (3, .int 115)]) d_Tokens_init_96 rfl 2 rfl (by decide) (by decide) [1, 2, 0, 3] rfl ?_
  refine g_goto (tgt := 43) d_Tokens_init_99 (by decide) ?_
  refine g_iload_n (pc1 := 44) d_Tokens_init_43 rfl 2 rfl ?_
  refine g_strlen (pc1 := 49) rfl d_Tokens_init_44 d_Tokens_init_46 rfl (Nat.le_of_ble_eq_true rfl) ⟨Nat.le_of_ble_eq_true rfl, Nat.le_of_ble_eq_true rfl⟩ ?_
  refine g_icmp_ge (pc1 := 52) (tgt := 102) d_Tokens_init_49 (by decide) rfl (fun h => absurd h (by decide)) (fun _ => ?_)
  refine g_strchr (pc1 := 58) (v := 32) rfl d_Tokens_init_52 d_Tokens_init_54 d_Tokens_init_55 rfl 2 rfl (by decide) (by decide) (by decide +kernel) (Nat.le_of_ble_eq_true rfl) ⟨Nat.le_of_ble_eq_true rfl, Nat.le_of_ble_eq_true rfl⟩ ?_
  refine g_istore_n (pc1 := 59) (lv' := [(0, .ref 4), (1, .int 6), (2, .int 38), (3, .int 32)]) d_Tokens_init_58 rfl rfl (by decide) [1, 2, 3, 0] rfl ?_
  refine g_iload_n (pc1 := 60) d_Tokens_init_59 rfl 3 rfl ?_
  refine g_bipush (pc1 := 62) (v := 32) d_Tokens_init_60 rfl (by decide) ?_
  refine g_icmp_ne (pc1 := 65) (tgt := 71) d_Tokens_init_62 (by decide) rfl (fun h => absurd h (by decide)) (fun _ => ?_)
  refine g_iinc (pc1 := 68) (v := 7) (lv' := [(0, .ref 4), (1, .int 7), (2, .int 38), (3, .int 32)]) d_Tokens_init_65 rfl 1 rfl (by decide) (by decide) [1, 0, 2, 3] rfl ?_
  refine g_goto (tgt := 96) d_Tokens_init_68 (by decide) ?_
  refine g_iinc (pc1 := 99) (v := 39) (lv' := [(0, .ref 4), (1, .int 7), (2, .int 39), (3, .int 32)]) d_Tokens_init_96 rfl 2 rfl (by decide) (by decide) [1, 2, 0, 3] rfl ?_
  refine g_goto (tgt := 43) d_Tokens_init_99 (by decide) ?_
  refine g_iload_n (pc1 := 44) d_Tokens_init_43 rfl 2 rfl ?_
  refine g_strlen (pc1 := 49) rfl d_Tokens_init_44 d_Tokens_init_46 rfl (Nat.le_of_ble_eq_true rfl) ⟨Nat.le_of_ble_eq_true rfl, Nat.le_of_ble_eq_true rfl⟩ ?_
  refine g_icmp_ge (pc1 := 52) (tgt := 102) d_Tokens_init_49 (by decide) rfl (fun h => absurd h (by decide)) (fun _ => ?_)
  refine g_strchr (pc1 := 58) (v := 115) rfl d_Tokens_init_52 d_Tokens_init_54 d_Tokens_init_55 rfl 2 rfl (by decide) (by decide) (by decide +kernel) (Nat.le_of_ble_eq_true rfl) ⟨Nat.le_of_ble_eq_true rfl, Nat.le_of_ble_eq_true rfl⟩ ?_
  refine g_istore_n (pc1 := 59) (lv' := [(0, .ref 4), (1, .int 7), (2, .int 39), (3, .int 115)]) d_Tokens_init_58 rfl rfl (by decide) [1, 2, 3, 0] rfl ?_
  refine g_iload_n (pc1 := 60) d_Tokens_init_59 rfl 3 rfl ?_
  refine g_bipush (pc1 := 62) (v := 32) d_Tokens_init_60 rfl (by decide) ?_
  refine g_icmp_ne (pc1 := 65) (tgt := 71) d_Tokens_init_62 (by decide) rfl (fun _ => ?_) (fun h => absurd h (by decide))
  refine g_iload_n (pc1 := 72) d_Tokens_init_71 rfl 1 rfl ?_
  refine g_aload_n (pc1 := 73) d_Tokens_init_72 rfl 0 rfl ?_
  refine g_getr (pc1 := 76) d_Tokens_init_73 rfl ⟨_, fo_Tokens_9⟩ sh_4 (by decide) q368 ?_
  refine g_alen (pc1 := 77) (v := 21) d_Tokens_init_76 rfl sh_5 (by decide) (by decide) (by decide) (by decide) ?_
  refine g_icmp_ge (pc1 := 80) (tgt := 96) d_Tokens_init_77 (by decide) rfl (fun h => absurd h (by decide)) (fun _ => ?_)
  refine g_aload_n (pc1 := 81) d_Tokens_init_80 rfl 0 rfl ?_
  refine g_getr (pc1 := 84) d_Tokens_init_81 rfl ⟨_, fo_Tokens_9⟩ sh_4 (by decide) q368 ?_
  refine g_iload_n (pc1 := 85) d_Tokens_init_84 rfl 1 rfl ?_
  refine g_aload_n (pc1 := 86) d_Tokens_init_85 rfl 0 rfl ?_
  refine g_getr (pc1 := 89) d_Tokens_init_86 rfl ⟨_, fo_Tokens_9⟩ sh_4 (by decide) q368 ?_
  refine g_iload_n (pc1 := 90) d_Tokens_init_89 rfl 1 rfl ?_
  refine g_lald (pc1 := 91) d_Tokens_init_90 rfl sh_5 (by decide) (vin_lit (x := 7) (by decide)) ?_
  refine Wp.vall (y := 0) (by rw [show (7 : Int32).toNatClampNeg = 7 from by decide]; exact (Z464 7 (by decide))) ?_
  refine g_iload_n (pc1 := 92) d_Tokens_init_91 rfl 3 rfl ?_
  refine g_callS (pc1 := 95) (E' := (0, 0, 9)) (As := [.long 0, .int 115]) (rest := [.int 7, .ref 5]) d_Tokens_init_92 rfl mo_Tokens_37 ms_Tokens_withLetter (by decide) rfl rfl (Nat.le_of_ble_eq_true rfl) ⟨Nat.le_of_ble_eq_true rfl, Nat.le_of_ble_eq_true rfl⟩ rfl ?_
  refine t0_withLetter ?_
  dsimp only [psh]
  refine Wp.vall (y := 19) (by decide +kernel) ?_
  refine g_last (pc1 := 96) d_Tokens_init_95 rfl sh_5 (by decide) (vin_lit (x := 7) (by decide)) ?_
  rw [show ((7 : Int32).toNatClampNeg) = 7 from by decide]
  refine Wp.topL (fun L466 eL466 => ?_)
  have Z467 : ∀ j : Nat, 7 < j → L466 5 j = 0 := fun j hj => (rdL_ne eL466 (fun q => by omega)).trans (Z464 j (by omega))
  have q468 : L466 5 7 = 19 := rdL_eq eL466
  refine g_iinc (pc1 := 99) (v := 40) (lv' := [(0, .ref 4), (1, .int 7), (2, .int 40), (3, .int 115)]) d_Tokens_init_96 rfl 2 rfl (by decide) (by decide) [1, 2, 0, 3] rfl ?_
  refine g_goto (tgt := 43) d_Tokens_init_99 (by decide) ?_
  refine g_iload_n (pc1 := 44) d_Tokens_init_43 rfl 2 rfl ?_
  refine g_strlen (pc1 := 49) rfl d_Tokens_init_44 d_Tokens_init_46 rfl (Nat.le_of_ble_eq_true rfl) ⟨Nat.le_of_ble_eq_true rfl, Nat.le_of_ble_eq_true rfl⟩ ?_
  refine g_icmp_ge (pc1 := 52) (tgt := 102) d_Tokens_init_49 (by decide) rfl (fun h => absurd h (by decide)) (fun _ => ?_)
  refine g_strchr (pc1 := 58) (v := 108) rfl d_Tokens_init_52 d_Tokens_init_54 d_Tokens_init_55 rfl 2 rfl (by decide) (by decide) (by decide +kernel) (Nat.le_of_ble_eq_true rfl) ⟨Nat.le_of_ble_eq_true rfl, Nat.le_of_ble_eq_true rfl⟩ ?_
  refine g_istore_n (pc1 := 59) (lv' := [(0, .ref 4), (1, .int 7), (2, .int 40), (3, .int 108)]) d_Tokens_init_58 rfl rfl (by decide) [1, 2, 3, 0] rfl ?_
  refine g_iload_n (pc1 := 60) d_Tokens_init_59 rfl 3 rfl ?_
  refine g_bipush (pc1 := 62) (v := 32) d_Tokens_init_60 rfl (by decide) ?_
  refine g_icmp_ne (pc1 := 65) (tgt := 71) d_Tokens_init_62 (by decide) rfl (fun _ => ?_) (fun h => absurd h (by decide))
  refine g_iload_n (pc1 := 72) d_Tokens_init_71 rfl 1 rfl ?_
  refine g_aload_n (pc1 := 73) d_Tokens_init_72 rfl 0 rfl ?_
  refine g_getr (pc1 := 76) d_Tokens_init_73 rfl ⟨_, fo_Tokens_9⟩ sh_4 (by decide) q368 ?_
  refine g_alen (pc1 := 77) (v := 21) d_Tokens_init_76 rfl sh_5 (by decide) (by decide) (by decide) (by decide) ?_
  refine g_icmp_ge (pc1 := 80) (tgt := 96) d_Tokens_init_77 (by decide) rfl (fun h => absurd h (by decide)) (fun _ => ?_)
  refine g_aload_n (pc1 := 81) d_Tokens_init_80 rfl 0 rfl ?_
  refine g_getr (pc1 := 84) d_Tokens_init_81 rfl ⟨_, fo_Tokens_9⟩ sh_4 (by decide) q368 ?_
  refine g_iload_n (pc1 := 85) d_Tokens_init_84 rfl 1 rfl ?_
  refine g_aload_n (pc1 := 86) d_Tokens_init_85 rfl 0 rfl ?_
  refine g_getr (pc1 := 89) d_Tokens_init_86 rfl ⟨_, fo_Tokens_9⟩ sh_4 (by decide) q368 ?_
  refine g_iload_n (pc1 := 90) d_Tokens_init_89 rfl 1 rfl ?_
  refine g_lald (pc1 := 91) d_Tokens_init_90 rfl sh_5 (by decide) (vin_lit (x := 7) (by decide)) ?_
  refine Wp.vall (y := 19) (by rw [show (7 : Int32).toNatClampNeg = 7 from by decide]; exact q468) ?_
  refine g_iload_n (pc1 := 92) d_Tokens_init_91 rfl 3 rfl ?_
  refine g_callS (pc1 := 95) (E' := (0, 0, 9)) (As := [.long 19, .int 108]) (rest := [.int 7, .ref 5]) d_Tokens_init_92 rfl mo_Tokens_37 ms_Tokens_withLetter (by decide) rfl rfl (Nat.le_of_ble_eq_true rfl) ⟨Nat.le_of_ble_eq_true rfl, Nat.le_of_ble_eq_true rfl⟩ rfl ?_
  refine t0_withLetter ?_
  dsimp only [psh]
  refine Wp.vall (y := 620) (by decide +kernel) ?_
  refine g_last (pc1 := 96) d_Tokens_init_95 rfl sh_5 (by decide) (vin_lit (x := 7) (by decide)) ?_
  rw [show ((7 : Int32).toNatClampNeg) = 7 from by decide]
  refine Wp.topL (fun L469 eL469 => ?_)
  have Z470 : ∀ j : Nat, 7 < j → L469 5 j = 0 := fun j hj => (rdL_ne eL469 (fun q => by omega)).trans (Z467 j (by omega))
  have q471 : L469 5 7 = 620 := rdL_eq eL469
  refine g_iinc (pc1 := 99) (v := 41) (lv' := [(0, .ref 4), (1, .int 7), (2, .int 41), (3, .int 108)]) d_Tokens_init_96 rfl 2 rfl (by decide) (by decide) [1, 2, 0, 3] rfl ?_
  refine g_goto (tgt := 43) d_Tokens_init_99 (by decide) ?_
  refine g_iload_n (pc1 := 44) d_Tokens_init_43 rfl 2 rfl ?_
  refine g_strlen (pc1 := 49) rfl d_Tokens_init_44 d_Tokens_init_46 rfl (Nat.le_of_ble_eq_true rfl) ⟨Nat.le_of_ble_eq_true rfl, Nat.le_of_ble_eq_true rfl⟩ ?_
  refine g_icmp_ge (pc1 := 52) (tgt := 102) d_Tokens_init_49 (by decide) rfl (fun h => absurd h (by decide)) (fun _ => ?_)
  refine g_strchr (pc1 := 58) (v := 105) rfl d_Tokens_init_52 d_Tokens_init_54 d_Tokens_init_55 rfl 2 rfl (by decide) (by decide) (by decide +kernel) (Nat.le_of_ble_eq_true rfl) ⟨Nat.le_of_ble_eq_true rfl, Nat.le_of_ble_eq_true rfl⟩ ?_
  refine g_istore_n (pc1 := 59) (lv' := [(0, .ref 4), (1, .int 7), (2, .int 41), (3, .int 105)]) d_Tokens_init_58 rfl rfl (by decide) [1, 2, 3, 0] rfl ?_
  refine g_iload_n (pc1 := 60) d_Tokens_init_59 rfl 3 rfl ?_
  refine g_bipush (pc1 := 62) (v := 32) d_Tokens_init_60 rfl (by decide) ?_
  refine g_icmp_ne (pc1 := 65) (tgt := 71) d_Tokens_init_62 (by decide) rfl (fun _ => ?_) (fun h => absurd h (by decide))
  refine g_iload_n (pc1 := 72) d_Tokens_init_71 rfl 1 rfl ?_
  refine g_aload_n (pc1 := 73) d_Tokens_init_72 rfl 0 rfl ?_
  refine g_getr (pc1 := 76) d_Tokens_init_73 rfl ⟨_, fo_Tokens_9⟩ sh_4 (by decide) q368 ?_
  refine g_alen (pc1 := 77) (v := 21) d_Tokens_init_76 rfl sh_5 (by decide) (by decide) (by decide) (by decide) ?_
  refine g_icmp_ge (pc1 := 80) (tgt := 96) d_Tokens_init_77 (by decide) rfl (fun h => absurd h (by decide)) (fun _ => ?_)
  refine g_aload_n (pc1 := 81) d_Tokens_init_80 rfl 0 rfl ?_
  refine g_getr (pc1 := 84) d_Tokens_init_81 rfl ⟨_, fo_Tokens_9⟩ sh_4 (by decide) q368 ?_
  refine g_iload_n (pc1 := 85) d_Tokens_init_84 rfl 1 rfl ?_
  refine g_aload_n (pc1 := 86) d_Tokens_init_85 rfl 0 rfl ?_
  refine g_getr (pc1 := 89) d_Tokens_init_86 rfl ⟨_, fo_Tokens_9⟩ sh_4 (by decide) q368 ?_
  refine g_iload_n (pc1 := 90) d_Tokens_init_89 rfl 1 rfl ?_
  refine g_lald (pc1 := 91) d_Tokens_init_90 rfl sh_5 (by decide) (vin_lit (x := 7) (by decide)) ?_
  refine Wp.vall (y := 620) (by rw [show (7 : Int32).toNatClampNeg = 7 from by decide]; exact q471) ?_
  refine g_iload_n (pc1 := 92) d_Tokens_init_91 rfl 3 rfl ?_
  refine g_callS (pc1 := 95) (E' := (0, 0, 9)) (As := [.long 620, .int 105]) (rest := [.int 7, .ref 5]) d_Tokens_init_92 rfl mo_Tokens_37 ms_Tokens_withLetter (by decide) rfl rfl (Nat.le_of_ble_eq_true rfl) ⟨Nat.le_of_ble_eq_true rfl, Nat.le_of_ble_eq_true rfl⟩ rfl ?_
  refine t0_withLetter ?_
  dsimp only [psh]
  refine Wp.vall (y := 19849) (by decide +kernel) ?_
  refine g_last (pc1 := 96) d_Tokens_init_95 rfl sh_5 (by decide) (vin_lit (x := 7) (by decide)) ?_
  rw [show ((7 : Int32).toNatClampNeg) = 7 from by decide]
  refine Wp.topL (fun L472 eL472 => ?_)
  have Z473 : ∀ j : Nat, 7 < j → L472 5 j = 0 := fun j hj => (rdL_ne eL472 (fun q => by omega)).trans (Z470 j (by omega))
  have q474 : L472 5 7 = 19849 := rdL_eq eL472
  refine g_iinc (pc1 := 99) (v := 42) (lv' := [(0, .ref 4), (1, .int 7), (2, .int 42), (3, .int 105)]) d_Tokens_init_96 rfl 2 rfl (by decide) (by decide) [1, 2, 0, 3] rfl ?_
  refine g_goto (tgt := 43) d_Tokens_init_99 (by decide) ?_
  refine g_iload_n (pc1 := 44) d_Tokens_init_43 rfl 2 rfl ?_
  refine g_strlen (pc1 := 49) rfl d_Tokens_init_44 d_Tokens_init_46 rfl (Nat.le_of_ble_eq_true rfl) ⟨Nat.le_of_ble_eq_true rfl, Nat.le_of_ble_eq_true rfl⟩ ?_
  refine g_icmp_ge (pc1 := 52) (tgt := 102) d_Tokens_init_49 (by decide) rfl (fun h => absurd h (by decide)) (fun _ => ?_)
  refine g_strchr (pc1 := 58) (v := 112) rfl d_Tokens_init_52 d_Tokens_init_54 d_Tokens_init_55 rfl 2 rfl (by decide) (by decide) (by decide +kernel) (Nat.le_of_ble_eq_true rfl) ⟨Nat.le_of_ble_eq_true rfl, Nat.le_of_ble_eq_true rfl⟩ ?_
  refine g_istore_n (pc1 := 59) (lv' := [(0, .ref 4), (1, .int 7), (2, .int 42), (3, .int 112)]) d_Tokens_init_58 rfl rfl (by decide) [1, 2, 3, 0] rfl ?_
  refine g_iload_n (pc1 := 60) d_Tokens_init_59 rfl 3 rfl ?_
  refine g_bipush (pc1 := 62) (v := 32) d_Tokens_init_60 rfl (by decide) ?_
  refine g_icmp_ne (pc1 := 65) (tgt := 71) d_Tokens_init_62 (by decide) rfl (fun _ => ?_) (fun h => absurd h (by decide))
  refine g_iload_n (pc1 := 72) d_Tokens_init_71 rfl 1 rfl ?_
  refine g_aload_n (pc1 := 73) d_Tokens_init_72 rfl 0 rfl ?_
  refine g_getr (pc1 := 76) d_Tokens_init_73 rfl ⟨_, fo_Tokens_9⟩ sh_4 (by decide) q368 ?_
  refine g_alen (pc1 := 77) (v := 21) d_Tokens_init_76 rfl sh_5 (by decide) (by decide) (by decide) (by decide) ?_
  refine g_icmp_ge (pc1 := 80) (tgt := 96) d_Tokens_init_77 (by decide) rfl (fun h => absurd h (by decide)) (fun _ => ?_)
  refine g_aload_n (pc1 := 81) d_Tokens_init_80 rfl 0 rfl ?_
  refine g_getr (pc1 := 84) d_Tokens_init_81 rfl ⟨_, fo_Tokens_9⟩ sh_4 (by decide) q368 ?_
  refine g_iload_n (pc1 := 85) d_Tokens_init_84 rfl 1 rfl ?_
  refine g_aload_n (pc1 := 86) d_Tokens_init_85 rfl 0 rfl ?_
  refine g_getr (pc1 := 89) d_Tokens_init_86 rfl ⟨_, fo_Tokens_9⟩ sh_4 (by decide) q368 ?_
  refine g_iload_n (pc1 := 90) d_Tokens_init_89 rfl 1 rfl ?_
  refine g_lald (pc1 := 91) d_Tokens_init_90 rfl sh_5 (by decide) (vin_lit (x := 7) (by decide)) ?_
  refine Wp.vall (y := 19849) (by rw [show (7 : Int32).toNatClampNeg = 7 from by decide]; exact q474) ?_
  refine g_iload_n (pc1 := 92) d_Tokens_init_91 rfl 3 rfl ?_
  refine g_callS (pc1 := 95) (E' := (0, 0, 9)) (As := [.long 19849, .int 112]) (rest := [.int 7, .ref 5]) d_Tokens_init_92 rfl mo_Tokens_37 ms_Tokens_withLetter (by decide) rfl rfl (Nat.le_of_ble_eq_true rfl) ⟨Nat.le_of_ble_eq_true rfl, Nat.le_of_ble_eq_true rfl⟩ rfl ?_
  refine t0_withLetter ?_
  dsimp only [psh]
  refine Wp.vall (y := 635184) (by decide +kernel) ?_
  refine g_last (pc1 := 96) d_Tokens_init_95 rfl sh_5 (by decide) (vin_lit (x := 7) (by decide)) ?_
  rw [show ((7 : Int32).toNatClampNeg) = 7 from by decide]
  refine Wp.topL (fun L475 eL475 => ?_)
  have Z476 : ∀ j : Nat, 7 < j → L475 5 j = 0 := fun j hj => (rdL_ne eL475 (fun q => by omega)).trans (Z473 j (by omega))
  have q477 : L475 5 7 = 635184 := rdL_eq eL475
  refine g_iinc (pc1 := 99) (v := 43) (lv' := [(0, .ref 4), (1, .int 7), (2, .int 43), (3, .int 112)]) d_Tokens_init_96 rfl 2 rfl (by decide) (by decide) [1, 2, 0, 3] rfl ?_
  refine g_goto (tgt := 43) d_Tokens_init_99 (by decide) ?_
  refine g_iload_n (pc1 := 44) d_Tokens_init_43 rfl 2 rfl ?_
  refine g_strlen (pc1 := 49) rfl d_Tokens_init_44 d_Tokens_init_46 rfl (Nat.le_of_ble_eq_true rfl) ⟨Nat.le_of_ble_eq_true rfl, Nat.le_of_ble_eq_true rfl⟩ ?_
  refine g_icmp_ge (pc1 := 52) (tgt := 102) d_Tokens_init_49 (by decide) rfl (fun h => absurd h (by decide)) (fun _ => ?_)
  refine g_strchr (pc1 := 58) (v := 115) rfl d_Tokens_init_52 d_Tokens_init_54 d_Tokens_init_55 rfl 2 rfl (by decide) (by decide) (by decide +kernel) (Nat.le_of_ble_eq_true rfl) ⟨Nat.le_of_ble_eq_true rfl, Nat.le_of_ble_eq_true rfl⟩ ?_
  refine g_istore_n (pc1 := 59) (lv' := [(0, .ref 4), (1, .int 7), (2, .int 43), (3, .int 115)]) d_Tokens_init_58 rfl rfl (by decide) [1, 2, 3, 0] rfl ?_
  refine g_iload_n (pc1 := 60) d_Tokens_init_59 rfl 3 rfl ?_
  refine g_bipush (pc1 := 62) (v := 32) d_Tokens_init_60 rfl (by decide) ?_
  refine g_icmp_ne (pc1 := 65) (tgt := 71) d_Tokens_init_62 (by decide) rfl (fun _ => ?_) (fun h => absurd h (by decide))
  refine g_iload_n (pc1 := 72) d_Tokens_init_71 rfl 1 rfl ?_
  refine g_aload_n (pc1 := 73) d_Tokens_init_72 rfl 0 rfl ?_
  refine g_getr (pc1 := 76) d_Tokens_init_73 rfl ⟨_, fo_Tokens_9⟩ sh_4 (by decide) q368 ?_
  refine g_alen (pc1 := 77) (v := 21) d_Tokens_init_76 rfl sh_5 (by decide) (by decide) (by decide) (by decide) ?_
  refine g_icmp_ge (pc1 := 80) (tgt := 96) d_Tokens_init_77 (by decide) rfl (fun h => absurd h (by decide)) (fun _ => ?_)
  refine g_aload_n (pc1 := 81) d_Tokens_init_80 rfl 0 rfl ?_
  refine g_getr (pc1 := 84) d_Tokens_init_81 rfl ⟨_, fo_Tokens_9⟩ sh_4 (by decide) q368 ?_
  refine g_iload_n (pc1 := 85) d_Tokens_init_84 rfl 1 rfl ?_
  refine g_aload_n (pc1 := 86) d_Tokens_init_85 rfl 0 rfl ?_
  refine g_getr (pc1 := 89) d_Tokens_init_86 rfl ⟨_, fo_Tokens_9⟩ sh_4 (by decide) q368 ?_
  refine g_iload_n (pc1 := 90) d_Tokens_init_89 rfl 1 rfl ?_
  refine g_lald (pc1 := 91) d_Tokens_init_90 rfl sh_5 (by decide) (vin_lit (x := 7) (by decide)) ?_
  refine Wp.vall (y := 635184) (by rw [show (7 : Int32).toNatClampNeg = 7 from by decide]; exact q477) ?_
  refine g_iload_n (pc1 := 92) d_Tokens_init_91 rfl 3 rfl ?_
  refine g_callS (pc1 := 95) (E' := (0, 0, 9)) (As := [.long 635184, .int 115]) (rest := [.int 7, .ref 5]) d_Tokens_init_92 rfl mo_Tokens_37 ms_Tokens_withLetter (by decide) rfl rfl (Nat.le_of_ble_eq_true rfl) ⟨Nat.le_of_ble_eq_true rfl, Nat.le_of_ble_eq_true rfl⟩ rfl ?_
  refine t0_withLetter ?_
  dsimp only [psh]
  refine Wp.vall (y := 20325907) (by decide +kernel) ?_
  refine g_last (pc1 := 96) d_Tokens_init_95 rfl sh_5 (by decide) (vin_lit (x := 7) (by decide)) ?_
  rw [show ((7 : Int32).toNatClampNeg) = 7 from by decide]
  refine Wp.topL (fun L478 eL478 => ?_)
  have Z479 : ∀ j : Nat, 7 < j → L478 5 j = 0 := fun j hj => (rdL_ne eL478 (fun q => by omega)).trans (Z476 j (by omega))
  have q480 : L478 5 7 = 20325907 := rdL_eq eL478
  refine g_iinc (pc1 := 99) (v := 44) (lv' := [(0, .ref 4), (1, .int 7), (2, .int 44), (3, .int 115)]) d_Tokens_init_96 rfl 2 rfl (by decide) (by decide) [1, 2, 0, 3] rfl ?_
  refine g_goto (tgt := 43) d_Tokens_init_99 (by decide) ?_
  refine g_iload_n (pc1 := 44) d_Tokens_init_43 rfl 2 rfl ?_
  refine g_strlen (pc1 := 49) rfl d_Tokens_init_44 d_Tokens_init_46 rfl (Nat.le_of_ble_eq_true rfl) ⟨Nat.le_of_ble_eq_true rfl, Nat.le_of_ble_eq_true rfl⟩ ?_
  refine g_icmp_ge (pc1 := 52) (tgt := 102) d_Tokens_init_49 (by decide) rfl (fun h => absurd h (by decide)) (fun _ => ?_)
  refine g_strchr (pc1 := 58) (v := 32) rfl d_Tokens_init_52 d_Tokens_init_54 d_Tokens_init_55 rfl 2 rfl (by decide) (by decide) (by decide +kernel) (Nat.le_of_ble_eq_true rfl) ⟨Nat.le_of_ble_eq_true rfl, Nat.le_of_ble_eq_true rfl⟩ ?_
  refine g_istore_n (pc1 := 59) (lv' := [(0, .ref 4), (1, .int 7), (2, .int 44), (3, .int 32)]) d_Tokens_init_58 rfl rfl (by decide) [1, 2, 3, 0] rfl ?_
  refine g_iload_n (pc1 := 60) d_Tokens_init_59 rfl 3 rfl ?_
  refine g_bipush (pc1 := 62) (v := 32) d_Tokens_init_60 rfl (by decide) ?_
  refine g_icmp_ne (pc1 := 65) (tgt := 71) d_Tokens_init_62 (by decide) rfl (fun h => absurd h (by decide)) (fun _ => ?_)
  refine g_iinc (pc1 := 68) (v := 8) (lv' := [(0, .ref 4), (1, .int 8), (2, .int 44), (3, .int 32)]) d_Tokens_init_65 rfl 1 rfl (by decide) (by decide) [1, 0, 2, 3] rfl ?_
  refine g_goto (tgt := 96) d_Tokens_init_68 (by decide) ?_
  refine g_iinc (pc1 := 99) (v := 45) (lv' := [(0, .ref 4), (1, .int 8), (2, .int 45), (3, .int 32)]) d_Tokens_init_96 rfl 2 rfl (by decide) (by decide) [1, 2, 0, 3] rfl ?_
  refine g_goto (tgt := 43) d_Tokens_init_99 (by decide) ?_
  refine g_iload_n (pc1 := 44) d_Tokens_init_43 rfl 2 rfl ?_
  refine g_strlen (pc1 := 49) rfl d_Tokens_init_44 d_Tokens_init_46 rfl (Nat.le_of_ble_eq_true rfl) ⟨Nat.le_of_ble_eq_true rfl, Nat.le_of_ble_eq_true rfl⟩ ?_
  refine g_icmp_ge (pc1 := 52) (tgt := 102) d_Tokens_init_49 (by decide) rfl (fun h => absurd h (by decide)) (fun _ => ?_)
  refine g_strchr (pc1 := 58) (v := 115) rfl d_Tokens_init_52 d_Tokens_init_54 d_Tokens_init_55 rfl 2 rfl (by decide) (by decide) (by decide +kernel) (Nat.le_of_ble_eq_true rfl) ⟨Nat.le_of_ble_eq_true rfl, Nat.le_of_ble_eq_true rfl⟩ ?_
  refine g_istore_n (pc1 := 59) (lv' := [(0, .ref 4), (1, .int 8), (2, .int 45), (3, .int 115)]) d_Tokens_init_58 rfl rfl (by decide) [1, 2, 3, 0] rfl ?_
  refine g_iload_n (pc1 := 60) d_Tokens_init_59 rfl 3 rfl ?_
  refine g_bipush (pc1 := 62) (v := 32) d_Tokens_init_60 rfl (by decide) ?_
  refine g_icmp_ne (pc1 := 65) (tgt := 71) d_Tokens_init_62 (by decide) rfl (fun _ => ?_) (fun h => absurd h (by decide))
  refine g_iload_n (pc1 := 72) d_Tokens_init_71 rfl 1 rfl ?_
  refine g_aload_n (pc1 := 73) d_Tokens_init_72 rfl 0 rfl ?_
  refine g_getr (pc1 := 76) d_Tokens_init_73 rfl ⟨_, fo_Tokens_9⟩ sh_4 (by decide) q368 ?_
  refine g_alen (pc1 := 77) (v := 21) d_Tokens_init_76 rfl sh_5 (by decide) (by decide) (by decide) (by decide) ?_
  refine g_icmp_ge (pc1 := 80) (tgt := 96) d_Tokens_init_77 (by decide) rfl (fun h => absurd h (by decide)) (fun _ => ?_)
  refine g_aload_n (pc1 := 81) d_Tokens_init_80 rfl 0 rfl ?_
  refine g_getr (pc1 := 84) d_Tokens_init_81 rfl ⟨_, fo_Tokens_9⟩ sh_4 (by decide) q368 ?_
  refine g_iload_n (pc1 := 85) d_Tokens_init_84 rfl 1 rfl ?_
  refine g_aload_n (pc1 := 86) d_Tokens_init_85 rfl 0 rfl ?_
  refine g_getr (pc1 := 89) d_Tokens_init_86 rfl ⟨_, fo_Tokens_9⟩ sh_4 (by decide) q368 ?_
  refine g_iload_n (pc1 := 90) d_Tokens_init_89 rfl 1 rfl ?_
  refine g_lald (pc1 := 91) d_Tokens_init_90 rfl sh_5 (by decide) (vin_lit (x := 8) (by decide)) ?_
  refine Wp.vall (y := 0) (by rw [show (8 : Int32).toNatClampNeg = 8 from by decide]; exact (Z479 8 (by decide))) ?_
  refine g_iload_n (pc1 := 92) d_Tokens_init_91 rfl 3 rfl ?_
  refine g_callS (pc1 := 95) (E' := (0, 0, 9)) (As := [.long 0, .int 115]) (rest := [.int 8, .ref 5]) d_Tokens_init_92 rfl mo_Tokens_37 ms_Tokens_withLetter (by decide) rfl rfl (Nat.le_of_ble_eq_true rfl) ⟨Nat.le_of_ble_eq_true rfl, Nat.le_of_ble_eq_true rfl⟩ rfl ?_
  refine t0_withLetter ?_
  dsimp only [psh]
  refine Wp.vall (y := 19) (by decide +kernel) ?_
  refine g_last (pc1 := 96) d_Tokens_init_95 rfl sh_5 (by decide) (vin_lit (x := 8) (by decide)) ?_
  rw [show ((8 : Int32).toNatClampNeg) = 8 from by decide]
  refine Wp.topL (fun L481 eL481 => ?_)
  have Z482 : ∀ j : Nat, 8 < j → L481 5 j = 0 := fun j hj => (rdL_ne eL481 (fun q => by omega)).trans (Z479 j (by omega))
  have q483 : L481 5 8 = 19 := rdL_eq eL481
  refine g_iinc (pc1 := 99) (v := 46) (lv' := [(0, .ref 4), (1, .int 8), (2, .int 46), (3, .int 115)]) d_Tokens_init_96 rfl 2 rfl (by decide) (by decide) [1, 2, 0, 3] rfl ?_
  refine g_goto (tgt := 43) d_Tokens_init_99 (by decide) ?_
  refine g_iload_n (pc1 := 44) d_Tokens_init_43 rfl 2 rfl ?_
  refine g_strlen (pc1 := 49) rfl d_Tokens_init_44 d_Tokens_init_46 rfl (Nat.le_of_ble_eq_true rfl) ⟨Nat.le_of_ble_eq_true rfl, Nat.le_of_ble_eq_true rfl⟩ ?_
  refine g_icmp_ge (pc1 := 52) (tgt := 102) d_Tokens_init_49 (by decide) rfl (fun h => absurd h (by decide)) (fun _ => ?_)
  refine g_strchr (pc1 := 58) (v := 101) rfl d_Tokens_init_52 d_Tokens_init_54 d_Tokens_init_55 rfl 2 rfl (by decide) (by decide) (by decide +kernel) (Nat.le_of_ble_eq_true rfl) ⟨Nat.le_of_ble_eq_true rfl, Nat.le_of_ble_eq_true rfl⟩ ?_
  refine g_istore_n (pc1 := 59) (lv' := [(0, .ref 4), (1, .int 8), (2, .int 46), (3, .int 101)]) d_Tokens_init_58 rfl rfl (by decide) [1, 2, 3, 0] rfl ?_
  refine g_iload_n (pc1 := 60) d_Tokens_init_59 rfl 3 rfl ?_
  refine g_bipush (pc1 := 62) (v := 32) d_Tokens_init_60 rfl (by decide) ?_
  refine g_icmp_ne (pc1 := 65) (tgt := 71) d_Tokens_init_62 (by decide) rfl (fun _ => ?_) (fun h => absurd h (by decide))
  refine g_iload_n (pc1 := 72) d_Tokens_init_71 rfl 1 rfl ?_
  refine g_aload_n (pc1 := 73) d_Tokens_init_72 rfl 0 rfl ?_
  refine g_getr (pc1 := 76) d_Tokens_init_73 rfl ⟨_, fo_Tokens_9⟩ sh_4 (by decide) q368 ?_
  refine g_alen (pc1 := 77) (v := 21) d_Tokens_init_76 rfl sh_5 (by decide) (by decide) (by decide) (by decide) ?_
  refine g_icmp_ge (pc1 := 80) (tgt := 96) d_Tokens_init_77 (by decide) rfl (fun h => absurd h (by decide)) (fun _ => ?_)
  refine g_aload_n (pc1 := 81) d_Tokens_init_80 rfl 0 rfl ?_
  refine g_getr (pc1 := 84) d_Tokens_init_81 rfl ⟨_, fo_Tokens_9⟩ sh_4 (by decide) q368 ?_
  refine g_iload_n (pc1 := 85) d_Tokens_init_84 rfl 1 rfl ?_
  refine g_aload_n (pc1 := 86) d_Tokens_init_85 rfl 0 rfl ?_
  refine g_getr (pc1 := 89) d_Tokens_init_86 rfl ⟨_, fo_Tokens_9⟩ sh_4 (by decide) q368 ?_
  refine g_iload_n (pc1 := 90) d_Tokens_init_89 rfl 1 rfl ?_
  refine g_lald (pc1 := 91) d_Tokens_init_90 rfl sh_5 (by decide) (vin_lit (x := 8) (by decide)) ?_
  refine Wp.vall (y := 19) (by rw [show (8 : Int32).toNatClampNeg = 8 from by decide]; exact q483) ?_
  refine g_iload_n (pc1 := 92) d_Tokens_init_91 rfl 3 rfl ?_
  refine g_callS (pc1 := 95) (E' := (0, 0, 9)) (As := [.long 19, .int 101]) (rest := [.int 8, .ref 5]) d_Tokens_init_92 rfl mo_Tokens_37 ms_Tokens_withLetter (by decide) rfl rfl (Nat.le_of_ble_eq_true rfl) ⟨Nat.le_of_ble_eq_true rfl, Nat.le_of_ble_eq_true rfl⟩ rfl ?_
  refine t0_withLetter ?_
  dsimp only [psh]
  refine Wp.vall (y := 613) (by decide +kernel) ?_
  refine g_last (pc1 := 96) d_Tokens_init_95 rfl sh_5 (by decide) (vin_lit (x := 8) (by decide)) ?_
  rw [show ((8 : Int32).toNatClampNeg) = 8 from by decide]
  refine Wp.topL (fun L484 eL484 => ?_)
  have Z485 : ∀ j : Nat, 8 < j → L484 5 j = 0 := fun j hj => (rdL_ne eL484 (fun q => by omega)).trans (Z482 j (by omega))
  have q486 : L484 5 8 = 613 := rdL_eq eL484
  refine g_iinc (pc1 := 99) (v := 47) (lv' := [(0, .ref 4), (1, .int 8), (2, .int 47), (3, .int 101)]) d_Tokens_init_96 rfl 2 rfl (by decide) (by decide) [1, 2, 0, 3] rfl ?_
  refine g_goto (tgt := 43) d_Tokens_init_99 (by decide) ?_
  refine g_iload_n (pc1 := 44) d_Tokens_init_43 rfl 2 rfl ?_
  refine g_strlen (pc1 := 49) rfl d_Tokens_init_44 d_Tokens_init_46 rfl (Nat.le_of_ble_eq_true rfl) ⟨Nat.le_of_ble_eq_true rfl, Nat.le_of_ble_eq_true rfl⟩ ?_
  refine g_icmp_ge (pc1 := 52) (tgt := 102) d_Tokens_init_49 (by decide) rfl (fun h => absurd h (by decide)) (fun _ => ?_)
  refine g_strchr (pc1 := 58) (v := 101) rfl d_Tokens_init_52 d_Tokens_init_54 d_Tokens_init_55 rfl 2 rfl (by decide) (by decide) (by decide +kernel) (Nat.le_of_ble_eq_true rfl) ⟨Nat.le_of_ble_eq_true rfl, Nat.le_of_ble_eq_true rfl⟩ ?_
  refine g_istore_n (pc1 := 59) (lv' := [(0, .ref 4), (1, .int 8), (2, .int 47), (3, .int 101)]) d_Tokens_init_58 rfl rfl (by decide) [1, 2, 3, 0] rfl ?_
  refine g_iload_n (pc1 := 60) d_Tokens_init_59 rfl 3 rfl ?_
  refine g_bipush (pc1 := 62) (v := 32) d_Tokens_init_60 rfl (by decide) ?_
  refine g_icmp_ne (pc1 := 65) (tgt := 71) d_Tokens_init_62 (by decide) rfl (fun _ => ?_) (fun h => absurd h (by decide))
  refine g_iload_n (pc1 := 72) d_Tokens_init_71 rfl 1 rfl ?_
  refine g_aload_n (pc1 := 73) d_Tokens_init_72 rfl 0 rfl ?_
  refine g_getr (pc1 := 76) d_Tokens_init_73 rfl ⟨_, fo_Tokens_9⟩ sh_4 (by decide) q368 ?_
  refine g_alen (pc1 := 77) (v := 21) d_Tokens_init_76 rfl sh_5 (by decide) (by decide) (by decide) (by decide) ?_
  refine g_icmp_ge (pc1 := 80) (tgt := 96) d_Tokens_init_77 (by decide) rfl (fun h => absurd h (by decide)) (fun _ => ?_)
  refine g_aload_n (pc1 := 81) d_Tokens_init_80 rfl 0 rfl ?_
  refine g_getr (pc1 := 84) d_Tokens_init_81 rfl ⟨_, fo_Tokens_9⟩ sh_4 (by decide) q368 ?_
  refine g_iload_n (pc1 := 85) d_Tokens_init_84 rfl 1 rfl ?_
  refine g_aload_n (pc1 := 86) d_Tokens_init_85 rfl 0 rfl ?_
  refine g_getr (pc1 := 89) d_Tokens_init_86 rfl ⟨_, fo_Tokens_9⟩ sh_4 (by decide) q368 ?_
  refine g_iload_n (pc1 := 90) d_Tokens_init_89 rfl 1 rfl ?_
  refine g_lald (pc1 := 91) d_Tokens_init_90 rfl sh_5 (by decide) (vin_lit (x := 8) (by decide)) ?_
  refine Wp.vall (y := 613) (by rw [show (8 : Int32).toNatClampNeg = 8 from by decide]; exact q486) ?_
  refine g_iload_n (pc1 := 92) d_Tokens_init_91 rfl 3 rfl ?_
  refine g_callS (pc1 := 95) (E' := (0, 0, 9)) (As := [.long 613, .int 101]) (rest := [.int 8, .ref 5]) d_Tokens_init_92 rfl mo_Tokens_37 ms_Tokens_withLetter (by decide) rfl rfl (Nat.le_of_ble_eq_true rfl) ⟨Nat.le_of_ble_eq_true rfl, Nat.le_of_ble_eq_true rfl⟩ rfl ?_
  refine t0_withLetter ?_
  dsimp only [psh]
  refine Wp.vall (y := 19621) (by decide +kernel) ?_
  refine g_last (pc1 := 96) d_Tokens_init_95 rfl sh_5 (by decide) (vin_lit (x := 8) (by decide)) ?_
  rw [show ((8 : Int32).toNatClampNeg) = 8 from by decide]
  refine Wp.topL (fun L487 eL487 => ?_)
  have Z488 : ∀ j : Nat, 8 < j → L487 5 j = 0 := fun j hj => (rdL_ne eL487 (fun q => by omega)).trans (Z485 j (by omega))
  have q489 : L487 5 8 = 19621 := rdL_eq eL487
  refine g_iinc (pc1 := 99) (v := 48) (lv' := [(0, .ref 4), (1, .int 8), (2, .int 48), (3, .int 101)]) d_Tokens_init_96 rfl 2 rfl (by decide) (by decide) [1, 2, 0, 3] rfl ?_
  refine g_goto (tgt := 43) d_Tokens_init_99 (by decide) ?_
  refine g_iload_n (pc1 := 44) d_Tokens_init_43 rfl 2 rfl ?_
  refine g_strlen (pc1 := 49) rfl d_Tokens_init_44 d_Tokens_init_46 rfl (Nat.le_of_ble_eq_true rfl) ⟨Nat.le_of_ble_eq_true rfl, Nat.le_of_ble_eq_true rfl⟩ ?_
  refine g_icmp_ge (pc1 := 52) (tgt := 102) d_Tokens_init_49 (by decide) rfl (fun h => absurd h (by decide)) (fun _ => ?_)
  refine g_strchr (pc1 := 58) (v := 100) rfl d_Tokens_init_52 d_Tokens_init_54 d_Tokens_init_55 rfl 2 rfl (by decide) (by decide) (by decide +kernel) (Nat.le_of_ble_eq_true rfl) ⟨Nat.le_of_ble_eq_true rfl, Nat.le_of_ble_eq_true rfl⟩ ?_
  refine g_istore_n (pc1 := 59) (lv' := [(0, .ref 4), (1, .int 8), (2, .int 48), (3, .int 100)]) d_Tokens_init_58 rfl rfl (by decide) [1, 2, 3, 0] rfl ?_
  refine g_iload_n (pc1 := 60) d_Tokens_init_59 rfl 3 rfl ?_
  refine g_bipush (pc1 := 62) (v := 32) d_Tokens_init_60 rfl (by decide) ?_
  refine g_icmp_ne (pc1 := 65) (tgt := 71) d_Tokens_init_62 (by decide) rfl (fun _ => ?_) (fun h => absurd h (by decide))
  refine g_iload_n (pc1 := 72) d_Tokens_init_71 rfl 1 rfl ?_
  refine g_aload_n (pc1 := 73) d_Tokens_init_72 rfl 0 rfl ?_
  refine g_getr (pc1 := 76) d_Tokens_init_73 rfl ⟨_, fo_Tokens_9⟩ sh_4 (by decide) q368 ?_
  refine g_alen (pc1 := 77) (v := 21) d_Tokens_init_76 rfl sh_5 (by decide) (by decide) (by decide) (by decide) ?_
  refine g_icmp_ge (pc1 := 80) (tgt := 96) d_Tokens_init_77 (by decide) rfl (fun h => absurd h (by decide)) (fun _ => ?_)
  refine g_aload_n (pc1 := 81) d_Tokens_init_80 rfl 0 rfl ?_
  refine g_getr (pc1 := 84) d_Tokens_init_81 rfl ⟨_, fo_Tokens_9⟩ sh_4 (by decide) q368 ?_
  refine g_iload_n (pc1 := 85) d_Tokens_init_84 rfl 1 rfl ?_
  refine g_aload_n (pc1 := 86) d_Tokens_init_85 rfl 0 rfl ?_
  refine g_getr (pc1 := 89) d_Tokens_init_86 rfl ⟨_, fo_Tokens_9⟩ sh_4 (by decide) q368 ?_
  refine g_iload_n (pc1 := 90) d_Tokens_init_89 rfl 1 rfl ?_
  refine g_lald (pc1 := 91) d_Tokens_init_90 rfl sh_5 (by decide) (vin_lit (x := 8) (by decide)) ?_
  refine Wp.vall (y := 19621) (by rw [show (8 : Int32).toNatClampNeg = 8 from by decide]; exact q489) ?_
  refine g_iload_n (pc1 := 92) d_Tokens_init_91 rfl 3 rfl ?_
  refine g_callS (pc1 := 95) (E' := (0, 0, 9)) (As := [.long 19621, .int 100]) (rest := [.int 8, .ref 5]) d_Tokens_init_92 rfl mo_Tokens_37 ms_Tokens_withLetter (by decide) rfl rfl (Nat.le_of_ble_eq_true rfl) ⟨Nat.le_of_ble_eq_true rfl, Nat.le_of_ble_eq_true rfl⟩ rfl ?_
  refine t0_withLetter ?_
  dsimp only [psh]
  refine Wp.vall (y := 627876) (by decide +kernel) ?_
  refine g_last (pc1 := 96) d_Tokens_init_95 rfl sh_5 (by decide) (vin_lit (x := 8) (by decide)) ?_
  rw [show ((8 : Int32).toNatClampNeg) = 8 from by decide]
  refine Wp.topL (fun L490 eL490 => ?_)
  have Z491 : ∀ j : Nat, 8 < j → L490 5 j = 0 := fun j hj => (rdL_ne eL490 (fun q => by omega)).trans (Z488 j (by omega))
  have q492 : L490 5 8 = 627876 := rdL_eq eL490
  refine g_iinc (pc1 := 99) (v := 49) (lv' := [(0, .ref 4), (1, .int 8), (2, .int 49), (3, .int 100)]) d_Tokens_init_96 rfl 2 rfl (by decide) (by decide) [1, 2, 0, 3] rfl ?_
  refine g_goto (tgt := 43) d_Tokens_init_99 (by decide) ?_
  refine g_iload_n (pc1 := 44) d_Tokens_init_43 rfl 2 rfl ?_
  refine g_strlen (pc1 := 49) rfl d_Tokens_init_44 d_Tokens_init_46 rfl (Nat.le_of_ble_eq_true rfl) ⟨Nat.le_of_ble_eq_true rfl, Nat.le_of_ble_eq_true rfl⟩ ?_
  refine g_icmp_ge (pc1 := 52) (tgt := 102) d_Tokens_init_49 (by decide) rfl (fun h => absurd h (by decide)) (fun _ => ?_)
  refine g_strchr (pc1 := 58) (v := 32) rfl d_Tokens_init_52 d_Tokens_init_54 d_Tokens_init_55 rfl 2 rfl (by decide) (by decide) (by decide +kernel) (Nat.le_of_ble_eq_true rfl) ⟨Nat.le_of_ble_eq_true rfl, Nat.le_of_ble_eq_true rfl⟩ ?_
  refine g_istore_n (pc1 := 59) (lv' := [(0, .ref 4), (1, .int 8), (2, .int 49), (3, .int 32)]) d_Tokens_init_58 rfl rfl (by decide) [1, 2, 3, 0] rfl ?_
  refine g_iload_n (pc1 := 60) d_Tokens_init_59 rfl 3 rfl ?_
  refine g_bipush (pc1 := 62) (v := 32) d_Tokens_init_60 rfl (by decide) ?_
  refine g_icmp_ne (pc1 := 65) (tgt := 71) d_Tokens_init_62 (by decide) rfl (fun h => absurd h (by decide)) (fun _ => ?_)
  refine g_iinc (pc1 := 68) (v := 9) (lv' := [(0, .ref 4), (1, .int 9), (2, .int 49), (3, .int 32)]) d_Tokens_init_65 rfl 1 rfl (by decide) (by decide) [1, 0, 2, 3] rfl ?_
  refine g_goto (tgt := 96) d_Tokens_init_68 (by decide) ?_
  refine g_iinc (pc1 := 99) (v := 50) (lv' := [(0, .ref 4), (1, .int 9), (2, .int 50), (3, .int 32)]) d_Tokens_init_96 rfl 2 rfl (by decide) (by decide) [1, 2, 0, 3] rfl ?_
  refine g_goto (tgt := 43) d_Tokens_init_99 (by decide) ?_
  refine g_iload_n (pc1 := 44) d_Tokens_init_43 rfl 2 rfl ?_
  refine g_strlen (pc1 := 49) rfl d_Tokens_init_44 d_Tokens_init_46 rfl (Nat.le_of_ble_eq_true rfl) ⟨Nat.le_of_ble_eq_true rfl, Nat.le_of_ble_eq_true rfl⟩ ?_
  refine g_icmp_ge (pc1 := 52) (tgt := 102) d_Tokens_init_49 (by decide) rfl (fun h => absurd h (by decide)) (fun _ => ?_)
  refine g_strchr (pc1 := 58) (v := 105) rfl d_Tokens_init_52 d_Tokens_init_54 d_Tokens_init_55 rfl 2 rfl (by decide) (by decide) (by decide +kernel) (Nat.le_of_ble_eq_true rfl) ⟨Nat.le_of_ble_eq_true rfl, Nat.le_of_ble_eq_true rfl⟩ ?_
  refine g_istore_n (pc1 := 59) (lv' := [(0, .ref 4), (1, .int 9), (2, .int 50), (3, .int 105)]) d_Tokens_init_58 rfl rfl (by decide) [1, 2, 3, 0] rfl ?_
  refine g_iload_n (pc1 := 60) d_Tokens_init_59 rfl 3 rfl ?_
  refine g_bipush (pc1 := 62) (v := 32) d_Tokens_init_60 rfl (by decide) ?_
  refine g_icmp_ne (pc1 := 65) (tgt := 71) d_Tokens_init_62 (by decide) rfl (fun _ => ?_) (fun h => absurd h (by decide))
  refine g_iload_n (pc1 := 72) d_Tokens_init_71 rfl 1 rfl ?_
  refine g_aload_n (pc1 := 73) d_Tokens_init_72 rfl 0 rfl ?_
  refine g_getr (pc1 := 76) d_Tokens_init_73 rfl ⟨_, fo_Tokens_9⟩ sh_4 (by decide) q368 ?_
  refine g_alen (pc1 := 77) (v := 21) d_Tokens_init_76 rfl sh_5 (by decide) (by decide) (by decide) (by decide) ?_
  refine g_icmp_ge (pc1 := 80) (tgt := 96) d_Tokens_init_77 (by decide) rfl (fun h => absurd h (by decide)) (fun _ => ?_)
  refine g_aload_n (pc1 := 81) d_Tokens_init_80 rfl 0 rfl ?_
  refine g_getr (pc1 := 84) d_Tokens_init_81 rfl ⟨_, fo_Tokens_9⟩ sh_4 (by decide) q368 ?_
  refine g_iload_n (pc1 := 85) d_Tokens_init_84 rfl 1 rfl ?_
  refine g_aload_n (pc1 := 86) d_Tokens_init_85 rfl 0 rfl ?_
  refine g_getr (pc1 := 89) d_Tokens_init_86 rfl ⟨_, fo_Tokens_9⟩ sh_4 (by decide) q368 ?_
  refine g_iload_n (pc1 := 90) d_Tokens_init_89 rfl 1 rfl ?_
  refine g_lald (pc1 := 91) d_Tokens_init_90 rfl sh_5 (by decide) (vin_lit (x := 9) (by decide)) ?_
  refine Wp.vall (y := 0) (by rw [show (9 : Int32).toNatClampNeg = 9 from by decide]; exact (Z491 9 (by decide))) ?_
  refine g_iload_n (pc1 := 92) d_Tokens_init_91 rfl 3 rfl ?_
  refine g_callS (pc1 := 95) (E' := (0, 0, 9)) (As := [.long 0, .int 105]) (rest := [.int 9, .ref 5]) d_Tokens_init_92 rfl mo_Tokens_37 ms_Tokens_withLetter (by decide) rfl rfl (Nat.le_of_ble_eq_true rfl) ⟨Nat.le_of_ble_eq_true rfl, Nat.le_of_ble_eq_true rfl⟩ rfl ?_
  refine t0_withLetter ?_
  dsimp only [psh]
  refine Wp.vall (y := 9) (by decide +kernel) ?_
  refine g_last (pc1 := 96) d_Tokens_init_95 rfl sh_5 (by decide) (vin_lit (x := 9) (by decide)) ?_
  rw [show ((9 : Int32).toNatClampNeg) = 9 from by decide]
  refine Wp.topL (fun L493 eL493 => ?_)
  have Z494 : ∀ j : Nat, 9 < j → L493 5 j = 0 := fun j hj => (rdL_ne eL493 (fun q => by omega)).trans (Z491 j (by omega))
  have q495 : L493 5 9 = 9 := rdL_eq eL493
  refine g_iinc (pc1 := 99) (v := 51) (lv' := [(0, .ref 4), (1, .int 9), (2, .int 51), (3, .int 105)]) d_Tokens_init_96 rfl 2 rfl (by decide) (by decide) [1, 2, 0, 3] rfl ?_
  refine g_goto (tgt := 43) d_Tokens_init_99 (by decide) ?_
  refine g_iload_n (pc1 := 44) d_Tokens_init_43 rfl 2 rfl ?_
  refine g_strlen (pc1 := 49) rfl d_Tokens_init_44 d_Tokens_init_46 rfl (Nat.le_of_ble_eq_true rfl) ⟨Nat.le_of_ble_eq_true rfl, Nat.le_of_ble_eq_true rfl⟩ ?_
  refine g_icmp_ge (pc1 := 52) (tgt := 102) d_Tokens_init_49 (by decide) rfl (fun h => absurd h (by decide)) (fun _ => ?_)
  refine g_strchr (pc1 := 58) (v := 102) rfl d_Tokens_init_52 d_Tokens_init_54 d_Tokens_init_55 rfl 2 rfl (by decide) (by decide) (by decide +kernel) (Nat.le_of_ble_eq_true rfl) ⟨Nat.le_of_ble_eq_true rfl, Nat.le_of_ble_eq_true rfl⟩ ?_
  refine g_istore_n (pc1 := 59) (lv' := [(0, .ref 4), (1, .int 9), (2, .int 51), (3, .int 102)]) d_Tokens_init_58 rfl rfl (by decide) [1, 2, 3, 0] rfl ?_
  refine g_iload_n (pc1 := 60) d_Tokens_init_59 rfl 3 rfl ?_
  refine g_bipush (pc1 := 62) (v := 32) d_Tokens_init_60 rfl (by decide) ?_
  refine g_icmp_ne (pc1 := 65) (tgt := 71) d_Tokens_init_62 (by decide) rfl (fun _ => ?_) (fun h => absurd h (by decide))
  refine g_iload_n (pc1 := 72) d_Tokens_init_71 rfl 1 rfl ?_
  refine g_aload_n (pc1 := 73) d_Tokens_init_72 rfl 0 rfl ?_
  refine g_getr (pc1 := 76) d_Tokens_init_73 rfl ⟨_, fo_Tokens_9⟩ sh_4 (by decide) q368 ?_
  refine g_alen (pc1 := 77) (v := 21) d_Tokens_init_76 rfl sh_5 (by decide) (by decide) (by decide) (by decide) ?_
  refine g_icmp_ge (pc1 := 80) (tgt := 96) d_Tokens_init_77 (by decide) rfl (fun h => absurd h (by decide)) (fun _ => ?_)
  refine g_aload_n (pc1 := 81) d_Tokens_init_80 rfl 0 rfl ?_
  refine g_getr (pc1 := 84) d_Tokens_init_81 rfl ⟨_, fo_Tokens_9⟩ sh_4 (by decide) q368 ?_
  refine g_iload_n (pc1 := 85) d_Tokens_init_84 rfl 1 rfl ?_
  refine g_aload_n (pc1 := 86) d_Tokens_init_85 rfl 0 rfl ?_
  refine g_getr (pc1 := 89) d_Tokens_init_86 rfl ⟨_, fo_Tokens_9⟩ sh_4 (by decide) q368 ?_
  refine g_iload_n (pc1 := 90) d_Tokens_init_89 rfl 1 rfl ?_
  refine g_lald (pc1 := 91) d_Tokens_init_90 rfl sh_5 (by decide) (vin_lit (x := 9) (by decide)) ?_
  refine Wp.vall (y := 9) (by rw [show (9 : Int32).toNatClampNeg = 9 from by decide]; exact q495) ?_
  refine g_iload_n (pc1 := 92) d_Tokens_init_91 rfl 3 rfl ?_
  refine g_callS (pc1 := 95) (E' := (0, 0, 9)) (As := [.long 9, .int 102]) (rest := [.int 9, .ref 5]) d_Tokens_init_92 rfl mo_Tokens_37 ms_Tokens_withLetter (by decide) rfl rfl (Nat.le_of_ble_eq_true rfl) ⟨Nat.le_of_ble_eq_true rfl, Nat.le_of_ble_eq_true rfl⟩ rfl ?_
  refine t0_withLetter ?_
  dsimp only [psh]
  refine Wp.vall (y := 294) (by decide +kernel) ?_
  refine g_last (pc1 := 96) d_Tokens_init_95 rfl sh_5 (by decide) (vin_lit (x := 9) (by decide)) ?_
  rw [show ((9 : Int32).toNatClampNeg) = 9 from by decide]
  refine Wp.topL (fun L496 eL496 => ?_)
  have Z497 : ∀ j : Nat, 9 < j → L496 5 j = 0 := fun j hj => (rdL_ne eL496 (fun q => by omega)).trans (Z494 j (by omega))
  have q498 : L496 5 9 = 294 := rdL_eq eL496
  refine g_iinc (pc1 := 99) (v := 52) (lv' := [(0, .ref 4), (1, .int 9), (2, .int 52), (3, .int 102)]) d_Tokens_init_96 rfl 2 rfl (by decide) (by decide) [1, 2, 0, 3] rfl ?_
  refine g_goto (tgt := 43) d_Tokens_init_99 (by decide) ?_
  refine g_iload_n (pc1 := 44) d_Tokens_init_43 rfl 2 rfl ?_
  refine g_strlen (pc1 := 49) rfl d_Tokens_init_44 d_Tokens_init_46 rfl (Nat.le_of_ble_eq_true rfl) ⟨Nat.le_of_ble_eq_true rfl, Nat.le_of_ble_eq_true rfl⟩ ?_
  refine g_icmp_ge (pc1 := 52) (tgt := 102) d_Tokens_init_49 (by decide) rfl (fun h => absurd h (by decide)) (fun _ => ?_)
  refine g_strchr (pc1 := 58) (v := 32) rfl d_Tokens_init_52 d_Tokens_init_54 d_Tokens_init_55 rfl 2 rfl (by decide) (by decide) (by decide +kernel) (Nat.le_of_ble_eq_true rfl) ⟨Nat.le_of_ble_eq_true rfl, Nat.le_of_ble_eq_true rfl⟩ ?_
  refine g_istore_n (pc1 := 59) (lv' := [(0, .ref 4), (1, .int 9), (2, .int 52), (3, .int 32)]) d_Tokens_init_58 rfl rfl (by decide) [1, 2, 3, 0] rfl ?_
  refine g_iload_n (pc1 := 60) d_Tokens_init_59 rfl 3 rfl ?_
  refine g_bipush (pc1 := 62) (v := 32) d_Tokens_init_60 rfl (by decide) ?_
  refine g_icmp_ne (pc1 := 65) (tgt := 71) d_Tokens_init_62 (by decide) rfl (fun h => absurd h (by decide)) (fun _ => ?_)
  refine g_iinc (pc1 := 68) (v := 10) (lv' := [(0, .ref 4), (1, .int 10), (2, .int 52), (3, .int 32)]) d_Tokens_init_65 rfl 1 rfl (by decide) (by decide) [1, 0, 2, 3] rfl ?_
  refine g_goto (tgt := 96) d_Tokens_init_68 (by decide) ?_
  refine g_iinc (pc1 := 99) (v := 53) (lv' := [(0, .ref 4), (1, .int 10), (2, .int 53), (3, .int 32)]) d_Tokens_init_96 rfl 2 rfl (by decide) (by decide) [1, 2, 0, 3] rfl ?_
  refine g_goto (tgt := 43) d_Tokens_init_99 (by decide) ?_
  refine g_iload_n (pc1 := 44) d_Tokens_init_43 rfl 2 rfl ?_
  refine g_strlen (pc1 := 49) rfl d_Tokens_init_44 d_Tokens_init_46 rfl (Nat.le_of_ble_eq_true rfl) ⟨Nat.le_of_ble_eq_true rfl, Nat.le_of_ble_eq_true rfl⟩ ?_
  refine g_icmp_ge (pc1 := 52) (tgt := 102) d_Tokens_init_49 (by decide) rfl (fun h => absurd h (by decide)) (fun _ => ?_)
  refine g_strchr (pc1 := 58) (v := 116) rfl d_Tokens_init_52 d_Tokens_init_54 d_Tokens_init_55 rfl 2 rfl (by decide) (by decide) (by decide +kernel) (Nat.le_of_ble_eq_true rfl) ⟨Nat.le_of_ble_eq_true rfl, Nat.le_of_ble_eq_true rfl⟩ ?_
  refine g_istore_n (pc1 := 59) (lv' := [(0, .ref 4), (1, .int 10), (2, .int 53), (3, .int 116)]) d_Tokens_init_58 rfl rfl (by decide) [1, 2, 3, 0] rfl ?_
  refine g_iload_n (pc1 := 60) d_Tokens_init_59 rfl 3 rfl ?_
  refine g_bipush (pc1 := 62) (v := 32) d_Tokens_init_60 rfl (by decide) ?_
  refine g_icmp_ne (pc1 := 65) (tgt := 71) d_Tokens_init_62 (by decide) rfl (fun _ => ?_) (fun h => absurd h (by decide))
  refine g_iload_n (pc1 := 72) d_Tokens_init_71 rfl 1 rfl ?_
  refine g_aload_n (pc1 := 73) d_Tokens_init_72 rfl 0 rfl ?_
  refine g_getr (pc1 := 76) d_Tokens_init_73 rfl ⟨_, fo_Tokens_9⟩ sh_4 (by decide) q368 ?_
  refine g_alen (pc1 := 77) (v := 21) d_Tokens_init_76 rfl sh_5 (by decide) (by decide) (by decide) (by decide) ?_
  refine g_icmp_ge (pc1 := 80) (tgt := 96) d_Tokens_init_77 (by decide) rfl (fun h => absurd h (by decide)) (fun _ => ?_)
  refine g_aload_n (pc1 := 81) d_Tokens_init_80 rfl 0 rfl ?_
  refine g_getr (pc1 := 84) d_Tokens_init_81 rfl ⟨_, fo_Tokens_9⟩ sh_4 (by decide) q368 ?_
  refine g_iload_n (pc1 := 85) d_Tokens_init_84 rfl 1 rfl ?_
  refine g_aload_n (pc1 := 86) d_Tokens_init_85 rfl 0 rfl ?_
  refine g_getr (pc1 := 89) d_Tokens_init_86 rfl ⟨_, fo_Tokens_9⟩ sh_4 (by decide) q368 ?_
  refine g_iload_n (pc1 := 90) d_Tokens_init_89 rfl 1 rfl ?_
  refine g_lald (pc1 := 91) d_Tokens_init_90 rfl sh_5 (by decide) (vin_lit (x := 10) (by decide)) ?_
  refine Wp.vall (y := 0) (by rw [show (10 : Int32).toNatClampNeg = 10 from by decide]; exact (Z497 10 (by decide))) ?_
  refine g_iload_n (pc1 := 92) d_Tokens_init_91 rfl 3 rfl ?_
  refine g_callS (pc1 := 95) (E' := (0, 0, 9)) (As := [.long 0, .int 116]) (rest := [.int 10, .ref 5]) d_Tokens_init_92 rfl mo_Tokens_37 ms_Tokens_withLetter (by decide) rfl rfl (Nat.le_of_ble_eq_true rfl) ⟨Nat.le_of_ble_eq_true rfl, Nat.le_of_ble_eq_true rfl⟩ rfl ?_
  refine t0_withLetter ?_
  dsimp only [psh]
  refine Wp.vall (y := 20) (by decide +kernel) ?_
  refine g_last (pc1 := 96) d_Tokens_init_95 rfl sh_5 (by decide) (vin_lit (x := 10) (by decide)) ?_
  rw [show ((10 : Int32).toNatClampNeg) = 10 from by decide]
  refine Wp.topL (fun L499 eL499 => ?_)
  have Z500 : ∀ j : Nat, 10 < j → L499 5 j = 0 := fun j hj => (rdL_ne eL499 (fun q => by omega)).trans (Z497 j (by omega))
  have q501 : L499 5 10 = 20 := rdL_eq eL499
  refine g_iinc (pc1 := 99) (v := 54) (lv' := [(0, .ref 4), (1, .int 10), (2, .int 54), (3, .int 116)]) d_Tokens_init_96 rfl 2 rfl (by decide) (by decide) [1, 2, 0, 3] rfl ?_
  refine g_goto (tgt := 43) d_Tokens_init_99 (by decide) ?_
  refine g_iload_n (pc1 := 44) d_Tokens_init_43 rfl 2 rfl ?_
  refine g_strlen (pc1 := 49) rfl d_Tokens_init_44 d_Tokens_init_46 rfl (Nat.le_of_ble_eq_true rfl) ⟨Nat.le_of_ble_eq_true rfl, Nat.le_of_ble_eq_true rfl⟩ ?_
  refine g_icmp_ge (pc1 := 52) (tgt := 102) d_Tokens_init_49 (by decide) rfl (fun h => absurd h (by decide)) (fun _ => ?_)
  refine g_strchr (pc1 := 58) (v := 104) rfl d_Tokens_init_52 d_Tokens_init_54 d_Tokens_init_55 rfl 2 rfl (by decide) (by decide) (by decide +kernel) (Nat.le_of_ble_eq_true rfl) ⟨Nat.le_of_ble_eq_true rfl, Nat.le_of_ble_eq_true rfl⟩ ?_
  refine g_istore_n (pc1 := 59) (lv' := [(0, .ref 4), (1, .int 10), (2, .int 54), (3, .int 104)]) d_Tokens_init_58 rfl rfl (by decide) [1, 2, 3, 0] rfl ?_
  refine g_iload_n (pc1 := 60) d_Tokens_init_59 rfl 3 rfl ?_
  refine g_bipush (pc1 := 62) (v := 32) d_Tokens_init_60 rfl (by decide) ?_
  refine g_icmp_ne (pc1 := 65) (tgt := 71) d_Tokens_init_62 (by decide) rfl (fun _ => ?_) (fun h => absurd h (by decide))
  refine g_iload_n (pc1 := 72) d_Tokens_init_71 rfl 1 rfl ?_
  refine g_aload_n (pc1 := 73) d_Tokens_init_72 rfl 0 rfl ?_
  refine g_getr (pc1 := 76) d_Tokens_init_73 rfl ⟨_, fo_Tokens_9⟩ sh_4 (by decide) q368 ?_
  refine g_alen (pc1 := 77) (v := 21) d_Tokens_init_76 rfl sh_5 (by decide) (by decide) (by decide) (by decide) ?_
  refine g_icmp_ge (pc1 := 80) (tgt := 96) d_Tokens_init_77 (by decide) rfl (fun h => absurd h (by decide)) (fun _ => ?_)
  refine g_aload_n (pc1 := 81) d_Tokens_init_80 rfl 0 rfl ?_
  refine g_getr (pc1 := 84) d_Tokens_init_81 rfl ⟨_, fo_Tokens_9⟩ sh_4 (by decide) q368 ?_
  refine g_iload_n (pc1 := 85) d_Tokens_init_84 rfl 1 rfl ?_
  refine g_aload_n (pc1 := 86) d_Tokens_init_85 rfl 0 rfl ?_
  refine g_getr (pc1 := 89) d_Tokens_init_86 rfl ⟨_, fo_Tokens_9⟩ sh_4 (by decide) q368 ?_
  refine g_iload_n (pc1 := 90) d_Tokens_init_89 rfl 1 rfl ?_
  refine g_lald (pc1 := 91) d_Tokens_init_90 rfl sh_5 (by decide) (vin_lit (x := 10) (by decide)) ?_
  refine Wp.vall (y := 20) (by rw [show (10 : Int32).toNatClampNeg = 10 from by decide]; exact q501) ?_
  refine g_iload_n (pc1 := 92) d_Tokens_init_91 rfl 3 rfl ?_
  refine g_callS (pc1 := 95) (E' := (0, 0, 9)) (As := [.long 20, .int 104]) (rest := [.int 10, .ref 5]) d_Tokens_init_92 rfl mo_Tokens_37 ms_Tokens_withLetter (by decide) rfl rfl (Nat.le_of_ble_eq_true rfl) ⟨Nat.le_of_ble_eq_true rfl, Nat.le_of_ble_eq_true rfl⟩ rfl ?_
  refine t0_withLetter ?_
  dsimp only [psh]
  refine Wp.vall (y := 648) (by decide +kernel) ?_
  refine g_last (pc1 := 96) d_Tokens_init_95 rfl sh_5 (by decide) (vin_lit (x := 10) (by decide)) ?_
  rw [show ((10 : Int32).toNatClampNeg) = 10 from by decide]
  refine Wp.topL (fun L502 eL502 => ?_)
  have Z503 : ∀ j : Nat, 10 < j → L502 5 j = 0 := fun j hj => (rdL_ne eL502 (fun q => by omega)).trans (Z500 j (by omega))
  have q504 : L502 5 10 = 648 := rdL_eq eL502
  refine g_iinc (pc1 := 99) (v := 55) (lv' := [(0, .ref 4), (1, .int 10), (2, .int 55), (3, .int 104)]) d_Tokens_init_96 rfl 2 rfl (by decide) (by decide) [1, 2, 0, 3] rfl ?_
  refine g_goto (tgt := 43) d_Tokens_init_99 (by decide) ?_
  refine g_iload_n (pc1 := 44) d_Tokens_init_43 rfl 2 rfl ?_
  refine g_strlen (pc1 := 49) rfl d_Tokens_init_44 d_Tokens_init_46 rfl (Nat.le_of_ble_eq_true rfl) ⟨Nat.le_of_ble_eq_true rfl, Nat.le_of_ble_eq_true rfl⟩ ?_
  refine g_icmp_ge (pc1 := 52) (tgt := 102) d_Tokens_init_49 (by decide) rfl (fun h => absurd h (by decide)) (fun _ => ?_)
  refine g_strchr (pc1 := 58) (v := 101) rfl d_Tokens_init_52 d_Tokens_init_54 d_Tokens_init_55 rfl 2 rfl (by decide) (by decide) (by decide +kernel) (Nat.le_of_ble_eq_true rfl) ⟨Nat.le_of_ble_eq_true rfl, Nat.le_of_ble_eq_true rfl⟩ ?_
  refine g_istore_n (pc1 := 59) (lv' := [(0, .ref 4), (1, .int 10), (2, .int 55), (3, .int 101)]) d_Tokens_init_58 rfl rfl (by decide) [1, 2, 3, 0] rfl ?_
  refine g_iload_n (pc1 := 60) d_Tokens_init_59 rfl 3 rfl ?_
  refine g_bipush (pc1 := 62) (v := 32) d_Tokens_init_60 rfl (by decide) ?_
  refine g_icmp_ne (pc1 := 65) (tgt := 71) d_Tokens_init_62 (by decide) rfl (fun _ => ?_) (fun h => absurd h (by decide))
  refine g_iload_n (pc1 := 72) d_Tokens_init_71 rfl 1 rfl ?_
  refine g_aload_n (pc1 := 73) d_Tokens_init_72 rfl 0 rfl ?_
  refine g_getr (pc1 := 76) d_Tokens_init_73 rfl ⟨_, fo_Tokens_9⟩ sh_4 (by decide) q368 ?_
  refine g_alen (pc1 := 77) (v := 21) d_Tokens_init_76 rfl sh_5 (by decide) (by decide) (by decide) (by decide) ?_
  refine g_icmp_ge (pc1 := 80) (tgt := 96) d_Tokens_init_77 (by decide) rfl (fun h => absurd h (by decide)) (fun _ => ?_)
  refine g_aload_n (pc1 := 81) d_Tokens_init_80 rfl 0 rfl ?_
  refine g_getr (pc1 := 84) d_Tokens_init_81 rfl ⟨_, fo_Tokens_9⟩ sh_4 (by decide) q368 ?_
  refine g_iload_n (pc1 := 85) d_Tokens_init_84 rfl 1 rfl ?_
  refine g_aload_n (pc1 := 86) d_Tokens_init_85 rfl 0 rfl ?_
  refine g_getr (pc1 := 89) d_Tokens_init_86 rfl ⟨_, fo_Tokens_9⟩ sh_4 (by decide) q368 ?_
  refine g_iload_n (pc1 := 90) d_Tokens_init_89 rfl 1 rfl ?_
  refine g_lald (pc1 := 91) d_Tokens_init_90 rfl sh_5 (by decide) (vin_lit (x := 10) (by decide)) ?_
  refine Wp.vall (y := 648) (by rw [show (10 : Int32).toNatClampNeg = 10 from by decide]; exact q504) ?_
  refine g_iload_n (pc1 := 92) d_Tokens_init_91 rfl 3 rfl ?_
  refine g_callS (pc1 := 95) (E' := (0, 0, 9)) (As := [.long 648, .int 101]) (rest := [.int 10, .ref 5]) d_Tokens_init_92 rfl mo_Tokens_37 ms_Tokens_withLetter (by decide) rfl rfl (Nat.le_of_ble_eq_true rfl) ⟨Nat.le_of_ble_eq_true rfl, Nat.le_of_ble_eq_true rfl⟩ rfl ?_
  refine t0_withLetter ?_
  dsimp only [psh]
  refine Wp.vall (y := 20741) (by decide +kernel) ?_
  refine g_last (pc1 := 96) d_Tokens_init_95 rfl sh_5 (by decide) (vin_lit (x := 10) (by decide)) ?_
  rw [show ((10 : Int32).toNatClampNeg) = 10 from by decide]
  refine Wp.topL (fun L505 eL505 => ?_)
  have Z506 : ∀ j : Nat, 10 < j → L505 5 j = 0 := fun j hj => (rdL_ne eL505 (fun q => by omega)).trans (Z503 j (by omega))
  have q507 : L505 5 10 = 20741 := rdL_eq eL505
  refine g_iinc (pc1 := 99) (v := 56) (lv' := [(0, .ref 4), (1, .int 10), (2, .int 56), (3, .int 101)]) d_Tokens_init_96 rfl 2 rfl (by decide) (by decide) [1, 2, 0, 3] rfl ?_
  refine g_goto (tgt := 43) d_Tokens_init_99 (by decide) ?_
  refine g_iload_n (pc1 := 44) d_Tokens_init_43 rfl 2 rfl ?_
  refine g_strlen (pc1 := 49) rfl d_Tokens_init_44 d_Tokens_init_46 rfl (Nat.le_of_ble_eq_true rfl) ⟨Nat.le_of_ble_eq_true rfl, Nat.le_of_ble_eq_true rfl⟩ ?_
  refine g_icmp_ge (pc1 := 52) (tgt := 102) d_Tokens_init_49 (by decide) rfl (fun h => absurd h (by decide)) (fun _ => ?_)
  refine g_strchr (pc1 := 58) (v := 110) rfl d_Tokens_init_52 d_Tokens_init_54 d_Tokens_init_55 rfl 2 rfl (by decide) (by decide) (by decide +kernel) (Nat.le_of_ble_eq_true rfl) ⟨Nat.le_of_ble_eq_true rfl, Nat.le_of_ble_eq_true rfl⟩ ?_
  refine g_istore_n (pc1 := 59) (lv' := [(0, .ref 4), (1, .int 10), (2, .int 56), (3, .int 110)]) d_Tokens_init_58 rfl rfl (by decide) [1, 2, 3, 0] rfl ?_
  refine g_iload_n (pc1 := 60) d_Tokens_init_59 rfl 3 rfl ?_
  refine g_bipush (pc1 := 62) (v := 32) d_Tokens_init_60 rfl (by decide) ?_
  refine g_icmp_ne (pc1 := 65) (tgt := 71) d_Tokens_init_62 (by decide) rfl (fun _ => ?_) (fun h => absurd h (by decide))
  refine g_iload_n (pc1 := 72) d_Tokens_init_71 rfl 1 rfl ?_
  refine g_aload_n (pc1 := 73) d_Tokens_init_72 rfl 0 rfl ?_
  refine g_getr (pc1 := 76) d_Tokens_init_73 rfl ⟨_, fo_Tokens_9⟩ sh_4 (by decide) q368 ?_
  refine g_alen (pc1 := 77) (v := 21) d_Tokens_init_76 rfl sh_5 (by decide) (by decide) (by decide) (by decide) ?_
  refine g_icmp_ge (pc1 := 80) (tgt := 96) d_Tokens_init_77 (by decide) rfl (fun h => absurd h (by decide)) (fun _ => ?_)
  refine g_aload_n (pc1 := 81) d_Tokens_init_80 rfl 0 rfl ?_
  refine g_getr (pc1 := 84) d_Tokens_init_81 rfl ⟨_, fo_Tokens_9⟩ sh_4 (by decide) q368 ?_
  refine g_iload_n (pc1 := 85) d_Tokens_init_84 rfl 1 rfl ?_
  refine g_aload_n (pc1 := 86) d_Tokens_init_85 rfl 0 rfl ?_
  refine g_getr (pc1 := 89) d_Tokens_init_86 rfl ⟨_, fo_Tokens_9⟩ sh_4 (by decide) q368 ?_
  refine g_iload_n (pc1 := 90) d_Tokens_init_89 rfl 1 rfl ?_
  refine g_lald (pc1 := 91) d_Tokens_init_90 rfl sh_5 (by decide) (vin_lit (x := 10) (by decide)) ?_
  refine Wp.vall (y := 20741) (by rw [show (10 : Int32).toNatClampNeg = 10 from by decide]; exact q507) ?_
  refine g_iload_n (pc1 := 92) d_Tokens_init_91 rfl 3 rfl ?_
  refine g_callS (pc1 := 95) (E' := (0, 0, 9)) (As := [.long 20741, .int 110]) (rest := [.int 10, .ref 5]) d_Tokens_init_92 rfl mo_Tokens_37 ms_Tokens_withLetter (by decide) rfl rfl (Nat.le_of_ble_eq_true rfl) ⟨Nat.le_of_ble_eq_true rfl, Nat.le_of_ble_eq_true rfl⟩ rfl ?_
  refine t0_withLetter ?_
  dsimp only [psh]
  refine Wp.vall (y := 663726) (by decide +kernel) ?_
  refine g_last (pc1 := 96) d_Tokens_init_95 rfl sh_5 (by decide) (vin_lit (x := 10) (by decide)) ?_
  rw [show ((10 : Int32).toNatClampNeg) = 10 from by decide]
  refine Wp.topL (fun L508 eL508 => ?_)
  have Z509 : ∀ j : Nat, 10 < j → L508 5 j = 0 := fun j hj => (rdL_ne eL508 (fun q => by omega)).trans (Z506 j (by omega))
  have q510 : L508 5 10 = 663726 := rdL_eq eL508
  refine g_iinc (pc1 := 99) (v := 57) (lv' := [(0, .ref 4), (1, .int 10), (2, .int 57), (3, .int 110)]) d_Tokens_init_96 rfl 2 rfl (by decide) (by decide) [1, 2, 0, 3] rfl ?_
  refine g_goto (tgt := 43) d_Tokens_init_99 (by decide) ?_
  refine g_iload_n (pc1 := 44) d_Tokens_init_43 rfl 2 rfl ?_
  refine g_strlen (pc1 := 49) rfl d_Tokens_init_44 d_Tokens_init_46 rfl (Nat.le_of_ble_eq_true rfl) ⟨Nat.le_of_ble_eq_true rfl, Nat.le_of_ble_eq_true rfl⟩ ?_
  refine g_icmp_ge (pc1 := 52) (tgt := 102) d_Tokens_init_49 (by decide) rfl (fun h => absurd h (by decide)) (fun _ => ?_)
  refine g_strchr (pc1 := 58) (v := 32) rfl d_Tokens_init_52 d_Tokens_init_54 d_Tokens_init_55 rfl 2 rfl (by decide) (by decide) (by decide +kernel) (Nat.le_of_ble_eq_true rfl) ⟨Nat.le_of_ble_eq_true rfl, Nat.le_of_ble_eq_true rfl⟩ ?_
  refine g_istore_n (pc1 := 59) (lv' := [(0, .ref 4), (1, .int 10), (2, .int 57), (3, .int 32)]) d_Tokens_init_58 rfl rfl (by decide) [1, 2, 3, 0] rfl ?_
  refine g_iload_n (pc1 := 60) d_Tokens_init_59 rfl 3 rfl ?_
  refine g_bipush (pc1 := 62) (v := 32) d_Tokens_init_60 rfl (by decide) ?_
  refine g_icmp_ne (pc1 := 65) (tgt := 71) d_Tokens_init_62 (by decide) rfl (fun h => absurd h (by decide)) (fun _ => ?_)
  refine g_iinc (pc1 := 68) (v := 11) (lv' := [(0, .ref 4), (1, .int 11), (2, .int 57), (3, .int 32)]) d_Tokens_init_65 rfl 1 rfl (by decide) (by decide) [1, 0, 2, 3] rfl ?_
  refine g_goto (tgt := 96) d_Tokens_init_68 (by decide) ?_
  refine g_iinc (pc1 := 99) (v := 58) (lv' := [(0, .ref 4), (1, .int 11), (2, .int 58), (3, .int 32)]) d_Tokens_init_96 rfl 2 rfl (by decide) (by decide) [1, 2, 0, 3] rfl ?_
  refine g_goto (tgt := 43) d_Tokens_init_99 (by decide) ?_
  refine g_iload_n (pc1 := 44) d_Tokens_init_43 rfl 2 rfl ?_
  refine g_strlen (pc1 := 49) rfl d_Tokens_init_44 d_Tokens_init_46 rfl (Nat.le_of_ble_eq_true rfl) ⟨Nat.le_of_ble_eq_true rfl, Nat.le_of_ble_eq_true rfl⟩ ?_
  refine g_icmp_ge (pc1 := 52) (tgt := 102) d_Tokens_init_49 (by decide) rfl (fun h => absurd h (by decide)) (fun _ => ?_)
  refine g_strchr (pc1 := 58) (v := 101) rfl d_Tokens_init_52 d_Tokens_init_54 d_Tokens_init_55 rfl 2 rfl (by decide) (by decide) (by decide +kernel) (Nat.le_of_ble_eq_true rfl) ⟨Nat.le_of_ble_eq_true rfl, Nat.le_of_ble_eq_true rfl⟩ ?_
  refine g_istore_n (pc1 := 59) (lv' := [(0, .ref 4), (1, .int 11), (2, .int 58), (3, .int 101)]) d_Tokens_init_58 rfl rfl (by decide) [1, 2, 3, 0] rfl ?_
  refine g_iload_n (pc1 := 60) d_Tokens_init_59 rfl 3 rfl ?_
  refine g_bipush (pc1 := 62) (v := 32) d_Tokens_init_60 rfl (by decide) ?_
  refine g_icmp_ne (pc1 := 65) (tgt := 71) d_Tokens_init_62 (by decide) rfl (fun _ => ?_) (fun h => absurd h (by decide))
  refine g_iload_n (pc1 := 72) d_Tokens_init_71 rfl 1 rfl ?_
  refine g_aload_n (pc1 := 73) d_Tokens_init_72 rfl 0 rfl ?_
  refine g_getr (pc1 := 76) d_Tokens_init_73 rfl ⟨_, fo_Tokens_9⟩ sh_4 (by decide) q368 ?_
  refine g_alen (pc1 := 77) (v := 21) d_Tokens_init_76 rfl sh_5 (by decide) (by decide) (by decide) (by decide) ?_
  refine g_icmp_ge (pc1 := 80) (tgt := 96) d_Tokens_init_77 (by decide) rfl (fun h => absurd h (by decide)) (fun _ => ?_)
  refine g_aload_n (pc1 := 81) d_Tokens_init_80 rfl 0 rfl ?_
  refine g_getr (pc1 := 84) d_Tokens_init_81 rfl ⟨_, fo_Tokens_9⟩ sh_4 (by decide) q368 ?_
  refine g_iload_n (pc1 := 85) d_Tokens_init_84 rfl 1 rfl ?_
  refine g_aload_n (pc1 := 86) d_Tokens_init_85 rfl 0 rfl ?_
  refine g_getr (pc1 := 89) d_Tokens_init_86 rfl ⟨_, fo_Tokens_9⟩ sh_4 (by decide) q368 ?_
  refine g_iload_n (pc1 := 90) d_Tokens_init_89 rfl 1 rfl ?_
  refine g_lald (pc1 := 91) d_Tokens_init_90 rfl sh_5 (by decide) (vin_lit (x := 11) (by decide)) ?_
  refine Wp.vall (y := 0) (by rw [show (11 : Int32).toNatClampNeg = 11 from by decide]; exact (Z509 11 (by decide))) ?_
  refine g_iload_n (pc1 := 92) d_Tokens_init_91 rfl 3 rfl ?_
  refine g_callS (pc1 := 95) (E' := (0, 0, 9)) (As := [.long 0, .int 101]) (rest := [.int 11, .ref 5]) d_Tokens_init_92 rfl mo_Tokens_37 ms_Tokens_withLetter (by decide) rfl rfl (Nat.le_of_ble_eq_true rfl) ⟨Nat.le_of_ble_eq_true rfl, Nat.le_of_ble_eq_true rfl⟩ rfl ?_
  refine t0_withLetter ?_
  dsimp only [psh]
  refine Wp.vall (y := 5) (by decide +kernel) ?_
  refine g_last (pc1 := 96) d_Tokens_init_95 rfl sh_5 (by decide) (vin_lit (x := 11) (by decide)) ?_
  rw [show ((11 : Int32).toNatClampNeg) = 11 from by decide]
  refine Wp.topL (fun L511 eL511 => ?_)
  have Z512 : ∀ j : Nat, 11 < j → L511 5 j = 0 := fun j hj => (rdL_ne eL511 (fun q => by omega)).trans (Z509 j (by omega))
  have q513 : L511 5 11 = 5 := rdL_eq eL511
  refine g_iinc (pc1 := 99) (v := 59) (lv' := [(0, .ref 4), (1, .int 11), (2, .int 59), (3, .int 101)]) d_Tokens_init_96 rfl 2 rfl (by decide) (by decide) [1, 2, 0, 3] rfl ?_
  refine g_goto (tgt := 43) d_Tokens_init_99 (by decide) ?_
  refine g_iload_n (pc1 := 44) d_Tokens_init_43 rfl 2 rfl ?_
  refine g_strlen (pc1 := 49) rfl d_Tokens_init_44 d_Tokens_init_46 rfl (Nat.le_of_ble_eq_true rfl) ⟨Nat.le_of_ble_eq_true rfl, Nat.le_of_ble_eq_true rfl⟩ ?_
  refine g_icmp_ge (pc1 := 52) (tgt := 102) d_Tokens_init_49 (by decide) rfl (fun h => absurd h (by decide)) (fun _ => ?_)
  refine g_strchr (pc1 := 58) (v := 108) rfl d_Tokens_init_52 d_Tokens_init_54 d_Tokens_init_55 rfl 2 rfl (by decide) (by decide) (by decide +kernel) (Nat.le_of_ble_eq_true rfl) ⟨Nat.le_of_ble_eq_true rfl, Nat.le_of_ble_eq_true rfl⟩ ?_
  refine g_istore_n (pc1 := 59) (lv' := [(0, .ref 4), (1, .int 11), (2, .int 59), (3, .int 108)]) d_Tokens_init_58 rfl rfl (by decide) [1, 2, 3, 0] rfl ?_
  refine g_iload_n (pc1 := 60) d_Tokens_init_59 rfl 3 rfl ?_
  refine g_bipush (pc1 := 62) (v := 32) d_Tokens_init_60 rfl (by decide) ?_
  refine g_icmp_ne (pc1 := 65) (tgt := 71) d_Tokens_init_62 (by decide) rfl (fun _ => ?_) (fun h => absurd h (by decide))
  refine g_iload_n (pc1 := 72) d_Tokens_init_71 rfl 1 rfl ?_
  refine g_aload_n (pc1 := 73) d_Tokens_init_72 rfl 0 rfl ?_
  refine g_getr (pc1 := 76) d_Tokens_init_73 rfl ⟨_, fo_Tokens_9⟩ sh_4 (by decide) q368 ?_
  refine g_alen (pc1 := 77) (v := 21) d_Tokens_init_76 rfl sh_5 (by decide) (by decide) (by decide) (by decide) ?_
  refine g_icmp_ge (pc1 := 80) (tgt := 96) d_Tokens_init_77 (by decide) rfl (fun h => absurd h (by decide)) (fun _ => ?_)
  refine g_aload_n (pc1 := 81) d_Tokens_init_80 rfl 0 rfl ?_
  refine g_getr (pc1 := 84) d_Tokens_init_81 rfl ⟨_, fo_Tokens_9⟩ sh_4 (by decide) q368 ?_
  refine g_iload_n (pc1 := 85) d_Tokens_init_84 rfl 1 rfl ?_
  refine g_aload_n (pc1 := 86) d_Tokens_init_85 rfl 0 rfl ?_
  refine g_getr (pc1 := 89) d_Tokens_init_86 rfl ⟨_, fo_Tokens_9⟩ sh_4 (by decide) q368 ?_
  refine g_iload_n (pc1 := 90) d_Tokens_init_89 rfl 1 rfl ?_
  refine g_lald (pc1 := 91) d_Tokens_init_90 rfl sh_5 (by decide) (vin_lit (x := 11) (by decide)) ?_
  refine Wp.vall (y := 5) (by rw [show (11 : Int32).toNatClampNeg = 11 from by decide]; exact q513) ?_
  refine g_iload_n (pc1 := 92) d_Tokens_init_91 rfl 3 rfl ?_
  refine g_callS (pc1 := 95) (E' := (0, 0, 9)) (As := [.long 5, .int 108]) (rest := [.int 11, .ref 5]) d_Tokens_init_92 rfl mo_Tokens_37 ms_Tokens_withLetter (by decide) rfl rfl (Nat.le_of_ble_eq_true rfl) ⟨Nat.le_of_ble_eq_true rfl, Nat.le_of_ble_eq_true rfl⟩ rfl ?_
  refine t0_withLetter ?_
  dsimp only [psh]
  refine Wp.vall (y := 172) (by decide +kernel) ?_
  refine g_last (pc1 := 96) d_Tokens_init_95 rfl sh_5 (by decide) (vin_lit (x := 11) (by decide)) ?_
  rw [show ((11 : Int32).toNatClampNeg) = 11 from by decide]
  refine Wp.topL (fun L514 eL514 => ?_)
  have Z515 : ∀ j : Nat, 11 < j → L514 5 j = 0 := fun j hj => (rdL_ne eL514 (fun q => by omega)).trans (Z512 j (by omega))
  have q516 : L514 5 11 = 172 := rdL_eq eL514
  refine g_iinc (pc1 := 99) (v := 60) (lv' := [(0, .ref 4), (1, .int 11), (2, .int 60), (3, .int 108)]) d_Tokens_init_96 rfl 2 rfl (by decide) (by decide) [1, 2, 0, 3] rfl ?_
  refine g_goto (tgt := 43) d_Tokens_init_99 (by decide) ?_
  refine g_iload_n (pc1 := 44) d_Tokens_init_43 rfl 2 rfl ?_
  refine g_strlen (pc1 := 49) rfl d_Tokens_init_44 d_Tokens_init_46 rfl (Nat.le_of_ble_eq_true rfl) ⟨Nat.le_of_ble_eq_true rfl, Nat.le_of_ble_eq_true rfl⟩ ?_
  refine g_icmp_ge (pc1 := 52) (tgt := 102) d_Tokens_init_49 (by decide) rfl (fun h => absurd h (by decide)) (fun _ => ?_)
  refine g_strchr (pc1 := 58) (v := 115) rfl d_Tokens_init_52 d_Tokens_init_54 d_Tokens_init_55 rfl 2 rfl (by decide) (by decide) (by decide +kernel) (Nat.le_of_ble_eq_true rfl) ⟨Nat.le_of_ble_eq_true rfl, Nat.le_of_ble_eq_true rfl⟩ ?_
  refine g_istore_n (pc1 := 59) (lv' := [(0, .ref 4), (1, .int 11), (2, .int 60), (3, .int 115)]) d_Tokens_init_58 rfl rfl (by decide) [1, 2, 3, 0] rfl ?_
  refine g_iload_n (pc1 := 60) d_Tokens_init_59 rfl 3 rfl ?_
  refine g_bipush (pc1 := 62) (v := 32) d_Tokens_init_60 rfl (by decide) ?_
  refine g_icmp_ne (pc1 := 65) (tgt := 71) d_Tokens_init_62 (by decide) rfl (fun _ => ?_) (fun h => absurd h (by decide))
  refine g_iload_n (pc1 := 72) d_Tokens_init_71 rfl 1 rfl ?_
  refine g_aload_n (pc1 := 73) d_Tokens_init_72 rfl 0 rfl ?_
  refine g_getr (pc1 := 76) d_Tokens_init_73 rfl ⟨_, fo_Tokens_9⟩ sh_4 (by decide) q368 ?_
  refine g_alen (pc1 := 77) (v := 21) d_Tokens_init_76 rfl sh_5 (by decide) (by decide) (by decide) (by decide) ?_
  refine g_icmp_ge (pc1 := 80) (tgt := 96) d_Tokens_init_77 (by decide) rfl (fun h => absurd h (by decide)) (fun _ => ?_)
  refine g_aload_n (pc1 := 81) d_Tokens_init_80 rfl 0 rfl ?_
  refine g_getr (pc1 := 84) d_Tokens_init_81 rfl ⟨_, fo_Tokens_9⟩ sh_4 (by decide) q368 ?_
  refine g_iload_n (pc1 := 85) d_Tokens_init_84 rfl 1 rfl ?_
  refine g_aload_n (pc1 := 86) d_Tokens_init_85 rfl 0 rfl ?_
  refine g_getr (pc1 := 89) d_Tokens_init_86 rfl ⟨_, fo_Tokens_9⟩ sh_4 (by decide) q368 ?_
  refine g_iload_n (pc1 := 90) d_Tokens_init_89 rfl 1 rfl ?_
  refine g_lald (pc1 := 91) d_Tokens_init_90 rfl sh_5 (by decide) (vin_lit (x := 11) (by decide)) ?_
  refine Wp.vall (y := 172) (by rw [show (11 : Int32).toNatClampNeg = 11 from by decide]; exact q516) ?_
  refine g_iload_n (pc1 := 92) d_Tokens_init_91 rfl 3 rfl ?_
  refine g_callS (pc1 := 95) (E' := (0, 0, 9)) (As := [.long 172, .int 115]) (rest := [.int 11, .ref 5]) d_Tokens_init_92 rfl mo_Tokens_37 ms_Tokens_withLetter (by decide) rfl rfl (Nat.le_of_ble_eq_true rfl) ⟨Nat.le_of_ble_eq_true rfl, Nat.le_of_ble_eq_true rfl⟩ rfl ?_
  refine t0_withLetter ?_
  dsimp only [psh]
  refine Wp.vall (y := 5523) (by decide +kernel) ?_
  refine g_last (pc1 := 96) d_Tokens_init_95 rfl sh_5 (by decide) (vin_lit (x := 11) (by decide)) ?_
  rw [show ((11 : Int32).toNatClampNeg) = 11 from by decide]
  refine Wp.topL (fun L517 eL517 => ?_)
  have Z518 : ∀ j : Nat, 11 < j → L517 5 j = 0 := fun j hj => (rdL_ne eL517 (fun q => by omega)).trans (Z515 j (by omega))
  have q519 : L517 5 11 = 5523 := rdL_eq eL517
  refine g_iinc (pc1 := 99) (v := 61) (lv' := [(0, .ref 4), (1, .int 11), (2, .int 61), (3, .int 115)]) d_Tokens_init_96 rfl 2 rfl (by decide) (by decide) [1, 2, 0, 3] rfl ?_
  refine g_goto (tgt := 43) d_Tokens_init_99 (by decide) ?_
  refine g_iload_n (pc1 := 44) d_Tokens_init_43 rfl 2 rfl ?_
  refine g_strlen (pc1 := 49) rfl d_Tokens_init_44 d_Tokens_init_46 rfl (Nat.le_of_ble_eq_true rfl) ⟨Nat.le_of_ble_eq_true rfl, Nat.le_of_ble_eq_true rfl⟩ ?_
  refine g_icmp_ge (pc1 := 52) (tgt := 102) d_Tokens_init_49 (by decide) rfl (fun h => absurd h (by decide)) (fun _ => ?_)
  refine g_strchr (pc1 := 58) (v := 101) rfl d_Tokens_init_52 d_Tokens_init_54 d_Tokens_init_55 rfl 2 rfl (by decide) (by decide) (by decide +kernel) (Nat.le_of_ble_eq_true rfl) ⟨Nat.le_of_ble_eq_true rfl, Nat.le_of_ble_eq_true rfl⟩ ?_
  refine g_istore_n (pc1 := 59) (lv' := [(0, .ref 4), (1, .int 11), (2, .int 61), (3, .int 101)]) d_Tokens_init_58 rfl rfl (by decide) [1, 2, 3, 0] rfl ?_
  refine g_iload_n (pc1 := 60) d_Tokens_init_59 rfl 3 rfl ?_
  refine g_bipush (pc1 := 62) (v := 32) d_Tokens_init_60 rfl (by decide) ?_
  refine g_icmp_ne (pc1 := 65) (tgt := 71) d_Tokens_init_62 (by decide) rfl (fun _ => ?_) (fun h => absurd h (by decide))
  refine g_iload_n (pc1 := 72) d_Tokens_init_71 rfl 1 rfl ?_
  refine g_aload_n (pc1 := 73) d_Tokens_init_72 rfl 0 rfl ?_
  refine g_getr (pc1 := 76) d_Tokens_init_73 rfl ⟨_, fo_Tokens_9⟩ sh_4 (by decide) q368 ?_
  refine g_alen (pc1 := 77) (v := 21) d_Tokens_init_76 rfl sh_5 (by decide) (by decide) (by decide) (by decide) ?_
  refine g_icmp_ge (pc1 := 80) (tgt := 96) d_Tokens_init_77 (by decide) rfl (fun h => absurd h (by decide)) (fun _ => ?_)
  refine g_aload_n (pc1 := 81) d_Tokens_init_80 rfl 0 rfl ?_
  refine g_getr (pc1 := 84) d_Tokens_init_81 rfl ⟨_, fo_Tokens_9⟩ sh_4 (by decide) q368 ?_
  refine g_iload_n (pc1 := 85) d_Tokens_init_84 rfl 1 rfl ?_
  refine g_aload_n (pc1 := 86) d_Tokens_init_85 rfl 0 rfl ?_
  refine g_getr (pc1 := 89) d_Tokens_init_86 rfl ⟨_, fo_Tokens_9⟩ sh_4 (by decide) q368 ?_
  refine g_iload_n (pc1 := 90) d_Tokens_init_89 rfl 1 rfl ?_
  refine g_lald (pc1 := 91) d_Tokens_init_90 rfl sh_5 (by decide) (vin_lit (x := 11) (by decide)) ?_
  refine Wp.vall (y := 5523) (by rw [show (11 : Int32).toNatClampNeg = 11 from by decide]; exact q519) ?_
  refine g_iload_n (pc1 := 92) d_Tokens_init_91 rfl 3 rfl ?_
  refine g_callS (pc1 := 95) (E' := (0, 0, 9)) (As := [.long 5523, .int 101]) (rest := [.int 11, .ref 5]) d_Tokens_init_92 rfl mo_Tokens_37 ms_Tokens_withLetter (by decide) rfl rfl (Nat.le_of_ble_eq_true rfl) ⟨Nat.le_of_ble_eq_true rfl, Nat.le_of_ble_eq_true rfl⟩ rfl ?_
  refine t0_withLetter ?_
  dsimp only [psh]
  refine Wp.vall (y := 176741) (by decide +kernel) ?_
  refine g_last (pc1 := 96) d_Tokens_init_95 rfl sh_5 (by decide) (vin_lit (x := 11) (by decide)) ?_
  rw [show ((11 : Int32).toNatClampNeg) = 11 from by decide]
  refine Wp.topL (fun L520 eL520 => ?_)
  have Z521 : ∀ j : Nat, 11 < j → L520 5 j = 0 := fun j hj => (rdL_ne eL520 (fun q => by omega)).trans (Z518 j (by omega))
  have q522 : L520 5 11 = 176741 := rdL_eq eL520
  refine g_iinc (pc1 := 99) (v := 62) (lv' := [(0, .ref 4), (1, .int 11), (2, .int 62), (3, .int 101)]) d_Tokens_init_96 rfl 2 rfl (by decide) (by decide) [1, 2, 0, 3] rfl ?_
  refine g_goto (tgt := 43) d_Tokens_init_99 (by decide) ?_
  refine g_iload_n (pc1 := 44) d_Tokens_init_43 rfl 2 rfl ?_
  refine g_strlen (pc1 := 49) rfl d_Tokens_init_44 d_Tokens_init_46 rfl (Nat.le_of_ble_eq_true rfl) ⟨Nat.le_of_ble_eq_true rfl, Nat.le_of_ble_eq_true rfl⟩ ?_
  refine g_icmp_ge (pc1 := 52) (tgt := 102) d_Tokens_init_49 (by decide) rfl (fun h => absurd h (by decide)) (fun _ => ?_)
  refine g_strchr (pc1 := 58) (v := 32) rfl d_Tokens_init_52 d_Tokens_init_54 d_Tokens_init_55 rfl 2 rfl (by decide) (by decide) (by decide +kernel) (Nat.le_of_ble_eq_true rfl) ⟨Nat.le_of_ble_eq_true rfl, Nat.le_of_ble_eq_true rfl⟩ ?_
  refine g_istore_n (pc1 := 59) (lv' := [(0, .ref 4), (1, .int 11), (2, .int 62), (3, .int 32)]) d_Tokens_init_58 rfl rfl (by decide) [1, 2, 3, 0] rfl ?_
  refine g_iload_n (pc1 := 60) d_Tokens_init_59 rfl 3 rfl ?_
  refine g_bipush (pc1 := 62) (v := 32) d_Tokens_init_60 rfl (by decide) ?_
  refine g_icmp_ne (pc1 := 65) (tgt := 71) d_Tokens_init_62 (by decide) rfl (fun h => absurd h (by decide)) (fun _ => ?_)
  refine g_iinc (pc1 := 68) (v := 12) (lv' := [(0, .ref 4), (1, .int 12), (2, .int 62), (3, .int 32)]) d_Tokens_init_65 rfl 1 rfl (by decide) (by decide) [1, 0, 2, 3] rfl ?_
  refine g_goto (tgt := 96) d_Tokens_init_68 (by decide) ?_
  refine g_iinc (pc1 := 99) (v := 63) (lv' := [(0, .ref 4), (1, .int 12), (2, .int 63), (3, .int 32)]) d_Tokens_init_96 rfl 2 rfl (by decide) (by decide) [1, 2, 0, 3] rfl ?_
  refine g_goto (tgt := 43) d_Tokens_init_99 (by decide) ?_
  refine g_iload_n (pc1 := 44) d_Tokens_init_43 rfl 2 rfl ?_
  refine g_strlen (pc1 := 49) rfl d_Tokens_init_44 d_Tokens_init_46 rfl (Nat.le_of_ble_eq_true rfl) ⟨Nat.le_of_ble_eq_true rfl, Nat.le_of_ble_eq_true rfl⟩ ?_
  refine g_icmp_ge (pc1 := 52) (tgt := 102) d_Tokens_init_49 (by decide) rfl (fun h => absurd h (by decide)) (fun _ => ?_)
  refine g_strchr (pc1 := 58) (v := 115) rfl d_Tokens_init_52 d_Tokens_init_54 d_Tokens_init_55 rfl 2 rfl (by decide) (by decide) (by decide +kernel) (Nat.le_of_ble_eq_true rfl) ⟨Nat.le_of_ble_eq_true rfl, Nat.le_of_ble_eq_true rfl⟩ ?_
  refine g_istore_n (pc1 := 59) (lv' := [(0, .ref 4), (1, .int 12), (2, .int 63), (3, .int 115)]) d_Tokens_init_58 rfl rfl (by decide) [1, 2, 3, 0] rfl ?_
  refine g_iload_n (pc1 := 60) d_Tokens_init_59 rfl 3 rfl ?_
  refine g_bipush (pc1 := 62) (v := 32) d_Tokens_init_60 rfl (by decide) ?_
  refine g_icmp_ne (pc1 := 65) (tgt := 71) d_Tokens_init_62 (by decide) rfl (fun _ => ?_) (fun h => absurd h (by decide))
  refine g_iload_n (pc1 := 72) d_Tokens_init_71 rfl 1 rfl ?_
  refine g_aload_n (pc1 := 73) d_Tokens_init_72 rfl 0 rfl ?_
  refine g_getr (pc1 := 76) d_Tokens_init_73 rfl ⟨_, fo_Tokens_9⟩ sh_4 (by decide) q368 ?_
  refine g_alen (pc1 := 77) (v := 21) d_Tokens_init_76 rfl sh_5 (by decide) (by decide) (by decide) (by decide) ?_
  refine g_icmp_ge (pc1 := 80) (tgt := 96) d_Tokens_init_77 (by decide) rfl (fun h => absurd h (by decide)) (fun _ => ?_)
  refine g_aload_n (pc1 := 81) d_Tokens_init_80 rfl 0 rfl ?_
  refine g_getr (pc1 := 84) d_Tokens_init_81 rfl ⟨_, fo_Tokens_9⟩ sh_4 (by decide) q368 ?_
  refine g_iload_n (pc1 := 85) d_Tokens_init_84 rfl 1 rfl ?_
  refine g_aload_n (pc1 := 86) d_Tokens_init_85 rfl 0 rfl ?_
  refine g_getr (pc1 := 89) d_Tokens_init_86 rfl ⟨_, fo_Tokens_9⟩ sh_4 (by decide) q368 ?_
  refine g_iload_n (pc1 := 90) d_Tokens_init_89 rfl 1 rfl ?_
  refine g_lald (pc1 := 91) d_Tokens_init_90 rfl sh_5 (by decide) (vin_lit (x := 12) (by decide)) ?_
  refine Wp.vall (y := 0) (by rw [show (12 : Int32).toNatClampNeg = 12 from by decide]; exact (Z521 12 (by decide))) ?_
  refine g_iload_n (pc1 := 92) d_Tokens_init_91 rfl 3 rfl ?_
  refine g_callS (pc1 := 95) (E' := (0, 0, 9)) (As := [.long 0, .int 115]) (rest := [.int 12, .ref 5]) d_Tokens_init_92 rfl mo_Tokens_37 ms_Tokens_withLetter (by decide) rfl rfl (Nat.le_of_ble_eq_true rfl) ⟨Nat.le_of_ble_eq_true rfl, Nat.le_of_ble_eq_true rfl⟩ rfl ?_
  refine t0_withLetter ?_
  dsimp only [psh]
  refine Wp.vall (y := 19) (by decide +kernel) ?_
  refine g_last (pc1 := 96) d_Tokens_init_95 rfl sh_5 (by decide) (vin_lit (x := 12) (by decide)) ?_
  rw [show ((12 : Int32).toNatClampNeg) = 12 from by decide]
  refine Wp.topL (fun L523 eL523 => ?_)
  have Z524 : ∀ j : Nat, 12 < j → L523 5 j = 0 := fun j hj => (rdL_ne eL523 (fun q => by omega)).trans (Z521 j (by omega))
  have q525 : L523 5 12 = 19 := rdL_eq eL523
  refine g_iinc (pc1 := 99) (v := 64) (lv' := [(0, .ref 4), (1, .int 12), (2, .int 64), (3, .int 115)]) d_Tokens_init_96 rfl 2 rfl (by decide) (by decide) [1, 2, 0, 3] rfl ?_
  refine g_goto (tgt := 43) d_Tokens_init_99 (by decide) ?_
  refine g_iload_n (pc1 := 44) d_Tokens_init_43 rfl 2 rfl ?_
  refine g_strlen (pc1 := 49) rfl d_Tokens_init_44 d_Tokens_init_46 rfl (Nat.le_of_ble_eq_true rfl) ⟨Nat.le_of_ble_eq_true rfl, Nat.le_of_ble_eq_true rfl⟩ ?_
  refine g_icmp_ge (pc1 := 52) (tgt := 102) d_Tokens_init_49 (by decide) rfl (fun h => absurd h (by decide)) (fun _ => ?_)
  refine g_strchr (pc1 := 58) (v := 117) rfl d_Tokens_init_52 d_Tokens_init_54 d_Tokens_init_55 rfl 2 rfl (by decide) (by decide) (by decide +kernel) (Nat.le_of_ble_eq_true rfl) ⟨Nat.le_of_ble_eq_true rfl, Nat.le_of_ble_eq_true rfl⟩ ?_
  refine g_istore_n (pc1 := 59) (lv' := [(0, .ref 4), (1, .int 12), (2, .int 64), (3, .int 117)]) d_Tokens_init_58 rfl rfl (by decide) [1, 2, 3, 0] rfl ?_
  refine g_iload_n (pc1 := 60) d_Tokens_init_59 rfl 3 rfl ?_
  refine g_bipush (pc1 := 62) (v := 32) d_Tokens_init_60 rfl (by decide) ?_
  refine g_icmp_ne (pc1 := 65) (tgt := 71) d_Tokens_init_62 (by decide) rfl (fun _ => ?_) (fun h => absurd h (by decide))
  refine g_iload_n (pc1 := 72) d_Tokens_init_71 rfl 1 rfl ?_
  refine g_aload_n (pc1 := 73) d_Tokens_init_72 rfl 0 rfl ?_
  refine g_getr (pc1 := 76) d_Tokens_init_73 rfl ⟨_, fo_Tokens_9⟩ sh_4 (by decide) q368 ?_
  refine g_alen (pc1 := 77) (v := 21) d_Tokens_init_76 rfl sh_5 (by decide) (by decide) (by decide) (by decide) ?_
  refine g_icmp_ge (pc1 := 80) (tgt := 96) d_Tokens_init_77 (by decide) rfl (fun h => absurd h (by decide)) (fun _ => ?_)
  refine g_aload_n (pc1 := 81) d_Tokens_init_80 rfl 0 rfl ?_
  refine g_getr (pc1 := 84) d_Tokens_init_81 rfl ⟨_, fo_Tokens_9⟩ sh_4 (by decide) q368 ?_
  refine g_iload_n (pc1 := 85) d_Tokens_init_84 rfl 1 rfl ?_
  refine g_aload_n (pc1 := 86) d_Tokens_init_85 rfl 0 rfl ?_
  refine g_getr (pc1 := 89) d_Tokens_init_86 rfl ⟨_, fo_Tokens_9⟩ sh_4 (by decide) q368 ?_
  refine g_iload_n (pc1 := 90) d_Tokens_init_89 rfl 1 rfl ?_
  refine g_lald (pc1 := 91) d_Tokens_init_90 rfl sh_5 (by decide) (vin_lit (x := 12) (by decide)) ?_
  refine Wp.vall (y := 19) (by rw [show (12 : Int32).toNatClampNeg = 12 from by decide]; exact q525) ?_
  refine g_iload_n (pc1 := 92) d_Tokens_init_91 rfl 3 rfl ?_
  refine g_callS (pc1 := 95) (E' := (0, 0, 9)) (As := [.long 19, .int 117]) (rest := [.int 12, .ref 5]) d_Tokens_init_92 rfl mo_Tokens_37 ms_Tokens_withLetter (by decide) rfl rfl (Nat.le_of_ble_eq_true rfl) ⟨Nat.le_of_ble_eq_true rfl, Nat.le_of_ble_eq_true rfl⟩ rfl ?_
  refine t0_withLetter ?_
  dsimp only [psh]
  refine Wp.vall (y := 629) (by decide +kernel) ?_
  refine g_last (pc1 := 96) d_Tokens_init_95 rfl sh_5 (by decide) (vin_lit (x := 12) (by decide)) ?_
  rw [show ((12 : Int32).toNatClampNeg) = 12 from by decide]
  refine Wp.topL (fun L526 eL526 => ?_)
  have Z527 : ∀ j : Nat, 12 < j → L526 5 j = 0 := fun j hj => (rdL_ne eL526 (fun q => by omega)).trans (Z524 j (by omega))
  have q528 : L526 5 12 = 629 := rdL_eq eL526
  refine g_iinc (pc1 := 99) (v := 65) (lv' := [(0, .ref 4), (1, .int 12), (2, .int 65), (3, .int 117)]) d_Tokens_init_96 rfl 2 rfl (by decide) (by decide) [1, 2, 0, 3] rfl ?_
  refine g_goto (tgt := 43) d_Tokens_init_99 (by decide) ?_
  refine g_iload_n (pc1 := 44) d_Tokens_init_43 rfl 2 rfl ?_
  refine g_strlen (pc1 := 49) rfl d_Tokens_init_44 d_Tokens_init_46 rfl (Nat.le_of_ble_eq_true rfl) ⟨Nat.le_of_ble_eq_true rfl, Nat.le_of_ble_eq_true rfl⟩ ?_
  refine g_icmp_ge (pc1 := 52) (tgt := 102) d_Tokens_init_49 (by decide) rfl (fun h => absurd h (by decide)) (fun _ => ?_)
  refine g_strchr (pc1 := 58) (v := 109) rfl d_Tokens_init_52 d_Tokens_init_54 d_Tokens_init_55 rfl 2 rfl (by decide) (by decide) (by decide +kernel) (Nat.le_of_ble_eq_true rfl) ⟨Nat.le_of_ble_eq_true rfl, Nat.le_of_ble_eq_true rfl⟩ ?_
  refine g_istore_n (pc1 := 59) (lv' := [(0, .ref 4), (1, .int 12), (2, .int 65), (3, .int 109)]) d_Tokens_init_58 rfl rfl (by decide) [1, 2, 3, 0] rfl ?_
  refine g_iload_n (pc1 := 60) d_Tokens_init_59 rfl 3 rfl ?_
  refine g_bipush (pc1 := 62) (v := 32) d_Tokens_init_60 rfl (by decide) ?_
  refine g_icmp_ne (pc1 := 65) (tgt := 71) d_Tokens_init_62 (by decide) rfl (fun _ => ?_) (fun h => absurd h (by decide))
  refine g_iload_n (pc1 := 72) d_Tokens_init_71 rfl 1 rfl ?_
  refine g_aload_n (pc1 := 73) d_Tokens_init_72 rfl 0 rfl ?_
  refine g_getr (pc1 := 76) d_Tokens_init_73 rfl ⟨_, fo_Tokens_9⟩ sh_4 (by decide) q368 ?_
  refine g_alen (pc1 := 77) (v := 21) d_Tokens_init_76 rfl sh_5 (by decide) (by decide) (by decide) (by decide) ?_
  refine g_icmp_ge (pc1 := 80) (tgt := 96) d_Tokens_init_77 (by decide) rfl (fun h => absurd h (by decide)) (fun _ => ?_)
  refine g_aload_n (pc1 := 81) d_Tokens_init_80 rfl 0 rfl ?_
  refine g_getr (pc1 := 84) d_Tokens_init_81 rfl ⟨_, fo_Tokens_9⟩ sh_4 (by decide) q368 ?_
  refine g_iload_n (pc1 := 85) d_Tokens_init_84 rfl 1 rfl ?_
  refine g_aload_n (pc1 := 86) d_Tokens_init_85 rfl 0 rfl ?_
  refine g_getr (pc1 := 89) d_Tokens_init_86 rfl ⟨_, fo_Tokens_9⟩ sh_4 (by decide) q368 ?_
  refine g_iload_n (pc1 := 90) d_Tokens_init_89 rfl 1 rfl ?_
  refine g_lald (pc1 := 91) d_Tokens_init_90 rfl sh_5 (by decide) (vin_lit (x := 12) (by decide)) ?_
  refine Wp.vall (y := 629) (by rw [show (12 : Int32).toNatClampNeg = 12 from by decide]; exact q528) ?_
  refine g_iload_n (pc1 := 92) d_Tokens_init_91 rfl 3 rfl ?_
  refine g_callS (pc1 := 95) (E' := (0, 0, 9)) (As := [.long 629, .int 109]) (rest := [.int 12, .ref 5]) d_Tokens_init_92 rfl mo_Tokens_37 ms_Tokens_withLetter (by decide) rfl rfl (Nat.le_of_ble_eq_true rfl) ⟨Nat.le_of_ble_eq_true rfl, Nat.le_of_ble_eq_true rfl⟩ rfl ?_
  refine t0_withLetter ?_
  dsimp only [psh]
  refine Wp.vall (y := 20141) (by decide +kernel) ?_
  refine g_last (pc1 := 96) d_Tokens_init_95 rfl sh_5 (by decide) (vin_lit (x := 12) (by decide)) ?_
  rw [show ((12 : Int32).toNatClampNeg) = 12 from by decide]
  refine Wp.topL (fun L529 eL529 => ?_)
  have Z530 : ∀ j : Nat, 12 < j → L529 5 j = 0 := fun j hj => (rdL_ne eL529 (fun q => by omega)).trans (Z527 j (by omega))
  have q531 : L529 5 12 = 20141 := rdL_eq eL529
  refine g_iinc (pc1 := 99) (v := 66) (lv' := [(0, .ref 4), (1, .int 12), (2, .int 66), (3, .int 109)]) d_Tokens_init_96 rfl 2 rfl (by decide) (by decide) [1, 2, 0, 3] rfl ?_
  refine g_goto (tgt := 43) d_Tokens_init_99 (by decide) ?_
  refine g_iload_n (pc1 := 44) d_Tokens_init_43 rfl 2 rfl ?_
  refine g_strlen (pc1 := 49) rfl d_Tokens_init_44 d_Tokens_init_46 rfl (Nat.le_of_ble_eq_true rfl) ⟨Nat.le_of_ble_eq_true rfl, Nat.le_of_ble_eq_true rfl⟩ ?_
  refine g_icmp_ge (pc1 := 52) (tgt := 102) d_Tokens_init_49 (by decide) rfl (fun h => absurd h (by decide)) (fun _ => ?_)
  refine g_strchr (pc1 := 58) (v := 32) rfl d_Tokens_init_52 d_Tokens_init_54 d_Tokens_init_55 rfl 2 rfl (by decide) (by decide) (by decide +kernel) (Nat.le_of_ble_eq_true rfl) ⟨Nat.le_of_ble_eq_true rfl, Nat.le_of_ble_eq_true rfl⟩ ?_
  refine g_istore_n (pc1 := 59) (lv' := [(0, .ref 4), (1, .int 12), (2, .int 66), (3, .int 32)]) d_Tokens_init_58 rfl rfl (by decide) [1, 2, 3, 0] rfl ?_
  refine g_iload_n (pc1 := 60) d_Tokens_init_59 rfl 3 rfl ?_
  refine g_bipush (pc1 := 62) (v := 32) d_Tokens_init_60 rfl (by decide) ?_
  refine g_icmp_ne (pc1 := 65) (tgt := 71) d_Tokens_init_62 (by decide) rfl (fun h => absurd h (by decide)) (fun _ => ?_)
  refine g_iinc (pc1 := 68) (v := 13) (lv' := [(0, .ref 4), (1, .int 13), (2, .int 66), (3, .int 32)]) d_Tokens_init_65 rfl 1 rfl (by decide) (by decide) [1, 0, 2, 3] rfl ?_
  refine g_goto (tgt := 96) d_Tokens_init_68 (by decide) ?_
  refine g_iinc (pc1 := 99) (v := 67) (lv' := [(0, .ref 4), (1, .int 13), (2, .int 67), (3, .int 32)]) d_Tokens_init_96 rfl 2 rfl (by decide) (by decide) [1, 2, 0, 3] rfl ?_
  refine g_goto (tgt := 43) d_Tokens_init_99 (by decide) ?_
  refine g_iload_n (pc1 := 44) d_Tokens_init_43 rfl 2 rfl ?_
  refine g_strlen (pc1 := 49) rfl d_Tokens_init_44 d_Tokens_init_46 rfl (Nat.le_of_ble_eq_true rfl) ⟨Nat.le_of_ble_eq_true rfl, Nat.le_of_ble_eq_true rfl⟩ ?_
  refine g_icmp_ge (pc1 := 52) (tgt := 102) d_Tokens_init_49 (by decide) rfl (fun h => absurd h (by decide)) (fun _ => ?_)
  refine g_strchr (pc1 := 58) (v := 104) rfl d_Tokens_init_52 d_Tokens_init_54 d_Tokens_init_55 rfl 2 rfl (by decide) (by decide) (by decide +kernel) (Nat.le_of_ble_eq_true rfl) ⟨Nat.le_of_ble_eq_true rfl, Nat.le_of_ble_eq_true rfl⟩ ?_
  refine g_istore_n (pc1 := 59) (lv' := [(0, .ref 4), (1, .int 13), (2, .int 67), (3, .int 104)]) d_Tokens_init_58 rfl rfl (by decide) [1, 2, 3, 0] rfl ?_
  refine g_iload_n (pc1 := 60) d_Tokens_init_59 rfl 3 rfl ?_
  refine g_bipush (pc1 := 62) (v := 32) d_Tokens_init_60 rfl (by decide) ?_
  refine g_icmp_ne (pc1 := 65) (tgt := 71) d_Tokens_init_62 (by decide) rfl (fun _ => ?_) (fun h => absurd h (by decide))
  refine g_iload_n (pc1 := 72) d_Tokens_init_71 rfl 1 rfl ?_
  refine g_aload_n (pc1 := 73) d_Tokens_init_72 rfl 0 rfl ?_
  refine g_getr (pc1 := 76) d_Tokens_init_73 rfl ⟨_, fo_Tokens_9⟩ sh_4 (by decide) q368 ?_
  refine g_alen (pc1 := 77) (v := 21) d_Tokens_init_76 rfl sh_5 (by decide) (by decide) (by decide) (by decide) ?_
  refine g_icmp_ge (pc1 := 80) (tgt := 96) d_Tokens_init_77 (by decide) rfl (fun h => absurd h (by decide)) (fun _ => ?_)
  refine g_aload_n (pc1 := 81) d_Tokens_init_80 rfl 0 rfl ?_
  refine g_getr (pc1 := 84) d_Tokens_init_81 rfl ⟨_, fo_Tokens_9⟩ sh_4 (by decide) q368 ?_
  refine g_iload_n (pc1 := 85) d_Tokens_init_84 rfl 1 rfl ?_
  refine g_aload_n (pc1 := 86) d_Tokens_init_85 rfl 0 rfl ?_
  refine g_getr (pc1 := 89) d_Tokens_init_86 rfl ⟨_, fo_Tokens_9⟩ sh_4 (by decide) q368 ?_
  refine g_iload_n (pc1 := 90) d_Tokens_init_89 rfl 1 rfl ?_
  refine g_lald (pc1 := 91) d_Tokens_init_90 rfl sh_5 (by decide) (vin_lit (x := 13) (by decide)) ?_
  refine Wp.vall (y := 0) (by rw [show (13 : Int32).toNatClampNeg = 13 from by decide]; exact (Z530 13 (by decide))) ?_
  refine g_iload_n (pc1 := 92) d_Tokens_init_91 rfl 3 rfl ?_
  refine g_callS (pc1 := 95) (E' := (0, 0, 9)) (As := [.long 0, .int 104]) (rest := [.int 13, .ref 5]) d_Tokens_init_92 rfl mo_Tokens_37 ms_Tokens_withLetter (by decide) rfl rfl (Nat.le_of_ble_eq_true rfl) ⟨Nat.le_of_ble_eq_true rfl, Nat.le_of_ble_eq_true rfl⟩ rfl ?_
  refine t0_withLetter ?_
  dsimp only [psh]
  refine Wp.vall (y := 8) (by decide +kernel) ?_
  refine g_last (pc1 := 96) d_Tokens_init_95 rfl sh_5 (by decide) (vin_lit (x := 13) (by decide)) ?_
  rw [show ((13 : Int32).toNatClampNeg) = 13 from by decide]
  refine Wp.topL (fun L532 eL532 => ?_)
  have Z533 : ∀ j : Nat, 13 < j → L532 5 j = 0 := fun j hj => (rdL_ne eL532 (fun q => by omega)).trans (Z530 j (by omega))
  have q534 : L532 5 13 = 8 := rdL_eq eL532
  refine g_iinc (pc1 := 99) (v := 68) (lv' := [(0, .ref 4), (1, .int 13), (2, .int 68), (3, .int 104)]) d_Tokens_init_96 rfl 2 rfl (by decide) (by decide) [1, 2, 0, 3] rfl ?_
  refine g_goto (tgt := 43) d_Tokens_init_99 (by decide) ?_
  refine g_iload_n (pc1 := 44) d_Tokens_init_43 rfl 2 rfl ?_
  refine g_strlen (pc1 := 49) rfl d_Tokens_init_44 d_Tokens_init_46 rfl (Nat.le_of_ble_eq_true rfl) ⟨Nat.le_of_ble_eq_true rfl, Nat.le_of_ble_eq_true rfl⟩ ?_
  refine g_icmp_ge (pc1 := 52) (tgt := 102) d_Tokens_init_49 (by decide) rfl (fun h => absurd h (by decide)) (fun _ => ?_)
  refine g_strchr (pc1 := 58) (v := 101) rfl d_Tokens_init_52 d_Tokens_init_54 d_Tokens_init_55 rfl 2 rfl (by decide) (by decide) (by decide +kernel) (Nat.le_of_ble_eq_true rfl) ⟨Nat.le_of_ble_eq_true rfl, Nat.le_of_ble_eq_true rfl⟩ ?_
  refine g_istore_n (pc1 := 59) (lv' := [(0, .ref 4), (1, .int 13), (2, .int 68), (3, .int 101)]) d_Tokens_init_58 rfl rfl (by decide) [1, 2, 3, 0] rfl ?_
  refine g_iload_n (pc1 := 60) d_Tokens_init_59 rfl 3 rfl ?_
  refine g_bipush (pc1 := 62) (v := 32) d_Tokens_init_60 rfl (by decide) ?_
  refine g_icmp_ne (pc1 := 65) (tgt := 71) d_Tokens_init_62 (by decide) rfl (fun _ => ?_) (fun h => absurd h (by decide))
  refine g_iload_n (pc1 := 72) d_Tokens_init_71 rfl 1 rfl ?_
  refine g_aload_n (pc1 := 73) d_Tokens_init_72 rfl 0 rfl ?_
  refine g_getr (pc1 := 76) d_Tokens_init_73 rfl ⟨_, fo_Tokens_9⟩ sh_4 (by decide) q368 ?_
  refine g_alen (pc1 := 77) (v := 21) d_Tokens_init_76 rfl sh_5 (by decide) (by decide) (by decide) (by decide) ?_
  refine g_icmp_ge (pc1 := 80) (tgt := 96) d_Tokens_init_77 (by decide) rfl (fun h => absurd h (by decide)) (fun _ => ?_)
  refine g_aload_n (pc1 := 81) d_Tokens_init_80 rfl 0 rfl ?_
  refine g_getr (pc1 := 84) d_Tokens_init_81 rfl ⟨_, fo_Tokens_9⟩ sh_4 (by decide) q368 ?_
  refine g_iload_n (pc1 := 85) d_Tokens_init_84 rfl 1 rfl ?_
  refine g_aload_n (pc1 := 86) d_Tokens_init_85 rfl 0 rfl ?_
  refine g_getr (pc1 := 89) d_Tokens_init_86 rfl ⟨_, fo_Tokens_9⟩ sh_4 (by decide) q368 ?_
  refine g_iload_n (pc1 := 90) d_Tokens_init_89 rfl 1 rfl ?_
  refine g_lald (pc1 := 91) d_Tokens_init_90 rfl sh_5 (by decide) (vin_lit (x := 13) (by decide)) ?_
  refine Wp.vall (y := 8) (by rw [show (13 : Int32).toNatClampNeg = 13 from by decide]; exact q534) ?_
  refine g_iload_n (pc1 := 92) d_Tokens_init_91 rfl 3 rfl ?_
  refine g_callS (pc1 := 95) (E' := (0, 0, 9)) (As := [.long 8, .int 101]) (rest := [.int 13, .ref 5]) d_Tokens_init_92 rfl mo_Tokens_37 ms_Tokens_withLetter (by decide) rfl rfl (Nat.le_of_ble_eq_true rfl) ⟨Nat.le_of_ble_eq_true rfl, Nat.le_of_ble_eq_true rfl⟩ rfl ?_
  refine t0_withLetter ?_
  dsimp only [psh]
  refine Wp.vall (y := 261) (by decide +kernel) ?_
  refine g_last (pc1 := 96) d_Tokens_init_95 rfl sh_5 (by decide) (vin_lit (x := 13) (by decide)) ?_
  rw [show ((13 : Int32).toNatClampNeg) = 13 from by decide]
  refine Wp.topL (fun L535 eL535 => ?_)
  have Z536 : ∀ j : Nat, 13 < j → L535 5 j = 0 := fun j hj => (rdL_ne eL535 (fun q => by omega)).trans (Z533 j (by omega))
  have q537 : L535 5 13 = 261 := rdL_eq eL535
  refine g_iinc (pc1 := 99) (v := 69) (lv' := [(0, .ref 4), (1, .int 13), (2, .int 69), (3, .int 101)]) d_Tokens_init_96 rfl 2 rfl (by decide) (by decide) [1, 2, 0, 3] rfl ?_
  refine g_goto (tgt := 43) d_Tokens_init_99 (by decide) ?_
  refine g_iload_n (pc1 := 44) d_Tokens_init_43 rfl 2 rfl ?_
  refine g_strlen (pc1 := 49) rfl d_Tokens_init_44 d_Tokens_init_46 rfl (Nat.le_of_ble_eq_true rfl) ⟨Nat.le_of_ble_eq_true rfl, Nat.le_of_ble_eq_true rfl⟩ ?_
  refine g_icmp_ge (pc1 := 52) (tgt := 102) d_Tokens_init_49 (by decide) rfl (fun h => absurd h (by decide)) (fun _ => ?_)
  refine g_strchr (pc1 := 58) (v := 97) rfl d_Tokens_init_52 d_Tokens_init_54 d_Tokens_init_55 rfl 2 rfl (by decide) (by decide) (by decide +kernel) (Nat.le_of_ble_eq_true rfl) ⟨Nat.le_of_ble_eq_true rfl, Nat.le_of_ble_eq_true rfl⟩ ?_
  refine g_istore_n (pc1 := 59) (lv' := [(0, .ref 4), (1, .int 13), (2, .int 69), (3, .int 97)]) d_Tokens_init_58 rfl rfl (by decide) [1, 2, 3, 0] rfl ?_
  refine g_iload_n (pc1 := 60) d_Tokens_init_59 rfl 3 rfl ?_
  refine g_bipush (pc1 := 62) (v := 32) d_Tokens_init_60 rfl (by decide) ?_
  refine g_icmp_ne (pc1 := 65) (tgt := 71) d_Tokens_init_62 (by decide) rfl (fun _ => ?_) (fun h => absurd h (by decide))
  refine g_iload_n (pc1 := 72) d_Tokens_init_71 rfl 1 rfl ?_
  refine g_aload_n (pc1 := 73) d_Tokens_init_72 rfl 0 rfl ?_
  refine g_getr (pc1 := 76) d_Tokens_init_73 rfl ⟨_, fo_Tokens_9⟩ sh_4 (by decide) q368 ?_
  refine g_alen (pc1 := 77) (v := 21) d_Tokens_init_76 rfl sh_5 (by decide) (by decide) (by decide) (by decide) ?_
  refine g_icmp_ge (pc1 := 80) (tgt := 96) d_Tokens_init_77 (by decide) rfl (fun h => absurd h (by decide)) (fun _ => ?_)
  refine g_aload_n (pc1 := 81) d_Tokens_init_80 rfl 0 rfl ?_
  refine g_getr (pc1 := 84) d_Tokens_init_81 rfl ⟨_, fo_Tokens_9⟩ sh_4 (by decide) q368 ?_
  refine g_iload_n (pc1 := 85) d_Tokens_init_84 rfl 1 rfl ?_
  refine g_aload_n (pc1 := 86) d_Tokens_init_85 rfl 0 rfl ?_
  refine g_getr (pc1 := 89) d_Tokens_init_86 rfl ⟨_, fo_Tokens_9⟩ sh_4 (by decide) q368 ?_
  refine g_iload_n (pc1 := 90) d_Tokens_init_89 rfl 1 rfl ?_
  refine g_lald (pc1 := 91) d_Tokens_init_90 rfl sh_5 (by decide) (vin_lit (x := 13) (by decide)) ?_
  refine Wp.vall (y := 261) (by rw [show (13 : Int32).toNatClampNeg = 13 from by decide]; exact q537) ?_
  refine g_iload_n (pc1 := 92) d_Tokens_init_91 rfl 3 rfl ?_
  refine g_callS (pc1 := 95) (E' := (0, 0, 9)) (As := [.long 261, .int 97]) (rest := [.int 13, .ref 5]) d_Tokens_init_92 rfl mo_Tokens_37 ms_Tokens_withLetter (by decide) rfl rfl (Nat.le_of_ble_eq_true rfl) ⟨Nat.le_of_ble_eq_true rfl, Nat.le_of_ble_eq_true rfl⟩ rfl ?_
  refine t0_withLetter ?_
  dsimp only [psh]
  refine Wp.vall (y := 8353) (by decide +kernel) ?_
  refine g_last (pc1 := 96) d_Tokens_init_95 rfl sh_5 (by decide) (vin_lit (x := 13) (by decide)) ?_
  rw [show ((13 : Int32).toNatClampNeg) = 13 from by decide]
  refine Wp.topL (fun L538 eL538 => ?_)
  have Z539 : ∀ j : Nat, 13 < j → L538 5 j = 0 := fun j hj => (rdL_ne eL538 (fun q => by omega)).trans (Z536 j (by omega))
  have q540 : L538 5 13 = 8353 := rdL_eq eL538
  refine g_iinc (pc1 := 99) (v := 70) (lv' := [(0, .ref 4), (1, .int 13), (2, .int 70), (3, .int 97)]) d_Tokens_init_96 rfl 2 rfl (by decide) (by decide) [1, 2, 0, 3] rfl ?_
  refine g_goto (tgt := 43) d_Tokens_init_99 (by decide) ?_
  refine g_iload_n (pc1 := 44) d_Tokens_init_43 rfl 2 rfl ?_
  refine g_strlen (pc1 := 49) rfl d_Tokens_init_44 d_Tokens_init_46 rfl (Nat.le_of_ble_eq_true rfl) ⟨Nat.le_of_ble_eq_true rfl, Nat.le_of_ble_eq_true rfl⟩ ?_
  refine g_icmp_ge (pc1 := 52) (tgt := 102) d_Tokens_init_49 (by decide) rfl (fun h => absurd h (by decide)) (fun _ => ?_)
  refine g_strchr (pc1 := 58) (v := 116) rfl d_Tokens_init_52 d_Tokens_init_54 d_Tokens_init_55 rfl 2 rfl (by decide) (by decide) (by decide +kernel) (Nat.le_of_ble_eq_true rfl) ⟨Nat.le_of_ble_eq_true rfl, Nat.le_of_ble_eq_true rfl⟩ ?_
  refine g_istore_n (pc1 := 59) (lv' := [(0, .ref 4), (1, .int 13), (2, .int 70), (3, .int 116)]) d_Tokens_init_58 rfl rfl (by decide) [1, 2, 3, 0] rfl ?_
  refine g_iload_n (pc1 := 60) d_Tokens_init_59 rfl 3 rfl ?_
  refine g_bipush (pc1 := 62) (v := 32) d_Tokens_init_60 rfl (by decide) ?_
  refine g_icmp_ne (pc1 := 65) (tgt := 71) d_Tokens_init_62 (by decide) rfl (fun _ => ?_) (fun h => absurd h (by decide))
  refine g_iload_n (pc1 := 72) d_Tokens_init_71 rfl 1 rfl ?_
  refine g_aload_n (pc1 := 73) d_Tokens_init_72 rfl 0 rfl ?_
  refine g_getr (pc1 := 76) d_Tokens_init_73 rfl ⟨_, fo_Tokens_9⟩ sh_4 (by decide) q368 ?_
  refine g_alen (pc1 := 77) (v := 21) d_Tokens_init_76 rfl sh_5 (by decide) (by decide) (by decide) (by decide) ?_
  refine g_icmp_ge (pc1 := 80) (tgt := 96) d_Tokens_init_77 (by decide) rfl (fun h => absurd h (by decide)) (fun _ => ?_)
  refine g_aload_n (pc1 := 81) d_Tokens_init_80 rfl 0 rfl ?_
  refine g_getr (pc1 := 84) d_Tokens_init_81 rfl ⟨_, fo_Tokens_9⟩ sh_4 (by decide) q368 ?_
  refine g_iload_n (pc1 := 85) d_Tokens_init_84 rfl 1 rfl ?_
  refine g_aload_n (pc1 := 86) d_Tokens_init_85 rfl 0 rfl ?_
  refine g_getr (pc1 := 89) d_Tokens_init_86 rfl ⟨_, fo_Tokens_9⟩ sh_4 (by decide) q368 ?_
  refine g_iload_n (pc1 := 90) d_Tokens_init_89 rfl 1 rfl ?_
  refine g_lald (pc1 := 91) d_Tokens_init_90 rfl sh_5 (by decide) (vin_lit (x := 13) (by decide)) ?_
  refine Wp.vall (y := 8353) (by rw [show (13 : Int32).toNatClampNeg = 13 from by decide]; exact q540) ?_
  refine g_iload_n (pc1 := 92) d_Tokens_init_91 rfl 3 rfl ?_
  refine g_callS (pc1 := 95) (E' := (0, 0, 9)) (As := [.long 8353, .int 116]) (rest := [.int 13, .ref 5]) d_Tokens_init_92 rfl mo_Tokens_37 ms_Tokens_withLetter (by decide) rfl rfl (Nat.le_of_ble_eq_true rfl) ⟨Nat.le_of_ble_eq_true rfl, Nat.le_of_ble_eq_true rfl⟩ rfl ?_
  refine t0_withLetter ?_
  dsimp only [psh]
  refine Wp.vall (y := 267316) (by decide +kernel) ?_
  refine g_last (pc1 := 96) d_Tokens_init_95 rfl sh_5 (by decide) (vin_lit (x := 13) (by decide)) ?_
  rw [show ((13 : Int32).toNatClampNeg) = 13 from by decide]
  refine Wp.topL (fun L541 eL541 => ?_)
  have Z542 : ∀ j : Nat, 13 < j → L541 5 j = 0 := fun j hj => (rdL_ne eL541 (fun q => by omega)).trans (Z539 j (by omega))
  have q543 : L541 5 13 = 267316 := rdL_eq eL541
  refine g_iinc (pc1 := 99) (v := 71) (lv' := [(0, .ref 4), (1, .int 13), (2, .int 71), (3, .int 116)]) d_Tokens_init_96 rfl 2 rfl (by decide) (by decide) [1, 2, 0, 3] rfl ?_
  refine g_goto (tgt := 43) d_Tokens_init_99 (by decide) ?_
  refine g_iload_n (pc1 := 44) d_Tokens_init_43 rfl 2 rfl ?_
  refine g_strlen (pc1 := 49) rfl d_Tokens_init_44 d_Tokens_init_46 rfl (Nat.le_of_ble_eq_true rfl) ⟨Nat.le_of_ble_eq_true rfl, Nat.le_of_ble_eq_true rfl⟩ ?_
  refine g_icmp_ge (pc1 := 52) (tgt := 102) d_Tokens_init_49 (by decide) rfl (fun h => absurd h (by decide)) (fun _ => ?_)
  refine g_strchr (pc1 := 58) (v := 32) rfl d_Tokens_init_52 d_Tokens_init_54 d_Tokens_init_55 rfl 2 rfl (by decide) (by decide) (by decide +kernel) (Nat.le_of_ble_eq_true rfl) ⟨Nat.le_of_ble_eq_true rfl, Nat.le_of_ble_eq_true rfl⟩ ?_
  refine g_istore_n (pc1 := 59) (lv' := [(0, .ref 4), (1, .int 13), (2, .int 71), (3, .int 32)]) d_Tokens_init_58 rfl rfl (by decide) [1, 2, 3, 0] rfl ?_
  refine g_iload_n (pc1 := 60) d_Tokens_init_59 rfl 3 rfl ?_
  refine g_bipush (pc1 := 62) (v := 32) d_Tokens_init_60 rfl (by decide) ?_
  refine g_icmp_ne (pc1 := 65) (tgt := 71) d_Tokens_init_62 (by decide) rfl (fun h => absurd h (by decide)) (fun _ => ?_)
  refine g_iinc (pc1 := 68) (v := 14) (lv' := [(0, .ref 4), (1, .int 14), (2, .int 71), (3, .int 32)]) d_Tokens_init_65 rfl 1 rfl (by decide) (by decide) [1, 0, 2, 3] rfl ?_
  refine g_goto (tgt := 96) d_Tokens_init_68 (by decide) ?_
  refine g_iinc (pc1 := 99) (v := 72) (lv' := [(0, .ref 4), (1, .int 14), (2, .int 72), (3, .int 32)]) d_Tokens_init_96 rfl 2 rfl (by decide) (by decide) [1, 2, 0, 3] rfl ?_
  refine g_goto (tgt := 43) d_Tokens_init_99 (by decide) ?_
  refine g_iload_n (pc1 := 44) d_Tokens_init_43 rfl 2 rfl ?_
  refine g_strlen (pc1 := 49) rfl d_Tokens_init_44 d_Tokens_init_46 rfl (Nat.le_of_ble_eq_true rfl) ⟨Nat.le_of_ble_eq_true rfl, Nat.le_of_ble_eq_true rfl⟩ ?_
  refine g_icmp_ge (pc1 := 52) (tgt := 102) d_Tokens_init_49 (by decide) rfl (fun h => absurd h (by decide)) (fun _ => ?_)
  refine g_strchr (pc1 := 58) (v := 107) rfl d_Tokens_init_52 d_Tokens_init_54 d_Tokens_init_55 rfl 2 rfl (by decide) (by decide) (by decide +kernel) (Nat.le_of_ble_eq_true rfl) ⟨Nat.le_of_ble_eq_true rfl, Nat.le_of_ble_eq_true rfl⟩ ?_
  refine g_istore_n (pc1 := 59) (lv' := [(0, .ref 4), (1, .int 14), (2, .int 72), (3, .int 107)]) d_Tokens_init_58 rfl rfl (by decide) [1, 2, 3, 0] rfl ?_
  refine g_iload_n (pc1 := 60) d_Tokens_init_59 rfl 3 rfl ?_
  refine g_bipush (pc1 := 62) (v := 32) d_Tokens_init_60 rfl (by decide) ?_
  refine g_icmp_ne (pc1 := 65) (tgt := 71) d_Tokens_init_62 (by decide) rfl (fun _ => ?_) (fun h => absurd h (by decide))
  refine g_iload_n (pc1 := 72) d_Tokens_init_71 rfl 1 rfl ?_
  refine g_aload_n (pc1 := 73) d_Tokens_init_72 rfl 0 rfl ?_
  refine g_getr (pc1 := 76) d_Tokens_init_73 rfl ⟨_, fo_Tokens_9⟩ sh_4 (by decide) q368 ?_
  refine g_alen (pc1 := 77) (v := 21) d_Tokens_init_76 rfl sh_5 (by decide) (by decide) (by decide) (by decide) ?_
  refine g_icmp_ge (pc1 := 80) (tgt := 96) d_Tokens_init_77 (by decide) rfl (fun h => absurd h (by decide)) (fun _ => ?_)
  refine g_aload_n (pc1 := 81) d_Tokens_init_80 rfl 0 rfl ?_
  refine g_getr (pc1 := 84) d_Tokens_init_81 rfl ⟨_, fo_Tokens_9⟩ sh_4 (by decide) q368 ?_
  refine g_iload_n (pc1 := 85) d_Tokens_init_84 rfl 1 rfl ?_
  refine g_aload_n (pc1 := 86) d_Tokens_init_85 rfl 0 rfl ?_
  refine g_getr (pc1 := 89) d_Tokens_init_86 rfl ⟨_, fo_Tokens_9⟩ sh_4 (by decide) q368 ?_
  refine g_iload_n (pc1 := 90) d_Tokens_init_89 rfl 1 rfl ?_
  refine g_lald (pc1 := 91) d_Tokens_init_90 rfl sh_5 (by decide) (vin_lit (x := 14) (by decide)) ?_
  refine Wp.vall (y := 0) (by rw [show (14 : Int32).toNatClampNeg = 14 from by decide]; exact (Z542 14 (by decide))) ?_
  refine g_iload_n (pc1 := 92) d_Tokens_init_91 rfl 3 rfl ?_
  refine g_callS (pc1 := 95) (E' := (0, 0, 9)) (As := [.long 0, .int 107]) (rest := [.int 14, .ref 5]) d_Tokens_init_92 rfl mo_Tokens_37 ms_Tokens_withLetter (by decide) rfl rfl (Nat.le_of_ble_eq_true rfl) ⟨Nat.le_of_ble_eq_true rfl, Nat.le_of_ble_eq_true rfl⟩ rfl ?_
  refine t0_withLetter ?_
  dsimp only [psh]
  refine Wp.vall (y := 11) (by decide +kernel) ?_
  refine g_last (pc1 := 96) d_Tokens_init_95 rfl sh_5 (by decide) (vin_lit (x := 14) (by decide)) ?_
  rw [show ((14 : Int32).toNatClampNeg) = 14 from by decide]
  refine Wp.topL (fun L544 eL544 => ?_)
  have Z545 : ∀ j : Nat, 14 < j → L544 5 j = 0 := fun j hj => (rdL_ne eL544 (fun q => by omega)).trans (Z542 j (by omega))
  have q546 : L544 5 14 = 11 := rdL_eq eL544
  refine g_iinc (pc1 := 99) (v := 73) (lv' := [(0, .ref 4), (1, .int 14), (2, .int 73), (3, .int 107)]) d_Tokens_init_96 rfl 2 rfl (by decide) (by decide) [1, 2, 0, 3] rfl ?_
  refine g_goto (tgt := 43) d_Tokens_init_99 (by decide) ?_
  refine g_iload_n (pc1 := 44) d_Tokens_init_43 rfl 2 rfl ?_
  refine g_strlen (pc1 := 49) rfl d_Tokens_init_44 d_Tokens_init_46 rfl (Nat.le_of_ble_eq_true rfl) ⟨Nat.le_of_ble_eq_true rfl, Nat.le_of_ble_eq_true rfl⟩ ?_
  refine g_icmp_ge (pc1 := 52) (tgt := 102) d_Tokens_init_49 (by decide) rfl (fun h => absurd h (by decide)) (fun _ => ?_)
  refine g_strchr (pc1 := 58) (v := 105) rfl d_Tokens_init_52 d_Tokens_init_54 d_Tokens_init_55 rfl 2 rfl (by decide) (by decide) (by decide +kernel) (Nat.le_of_ble_eq_true rfl) ⟨Nat.le_of_ble_eq_true rfl, Nat.le_of_ble_eq_true rfl⟩ ?_
  refine g_istore_n (pc1 := 59) (lv' := [(0, .ref 4), (1, .int 14), (2, .int 73), (3, .int 105)]) d_Tokens_init_58 rfl rfl (by decide) [1, 2, 3, 0] rfl ?_
  refine g_iload_n (pc1 := 60) d_Tokens_init_59 rfl 3 rfl ?_
  refine g_bipush (pc1 := 62) (v := 32) d_Tokens_init_60 rfl (by decide) ?_
  refine g_icmp_ne (pc1 := 65) (tgt := 71) d_Tokens_init_62 (by decide) rfl (fun _ => ?_) (fun h => absurd h (by decide))
  refine g_iload_n (pc1 := 72) d_Tokens_init_71 rfl 1 rfl ?_
  refine g_aload_n (pc1 := 73) d_Tokens_init_72 rfl 0 rfl ?_
  refine g_getr (pc1 := 76) d_Tokens_init_73 rfl ⟨_, fo_Tokens_9⟩ sh_4 (by decide) q368 ?_
  refine g_alen (pc1 := 77) (v := 21) d_Tokens_init_76 rfl sh_5 (by decide) (by decide) (by decide) (by decide) ?_
  refine g_icmp_ge (pc1 := 80) (tgt := 96) d_Tokens_init_77 (by decide) rfl (fun h => absurd h (by decide)) (fun _ => ?_)
  refine g_aload_n (pc1 := 81) d_Tokens_init_80 rfl 0 rfl ?_
  refine g_getr (pc1 := 84) d_Tokens_init_81 rfl ⟨_, fo_Tokens_9⟩ sh_4 (by decide) q368 ?_
  refine g_iload_n (pc1 := 85) d_Tokens_init_84 rfl 1 rfl ?_
  refine g_aload_n (pc1 := 86) d_Tokens_init_85 rfl 0 rfl ?_
  refine g_getr (pc1 := 89) d_Tokens_init_86 rfl ⟨_, fo_Tokens_9⟩ sh_4 (by decide) q368 ?_
  refine g_iload_n (pc1 := 90) d_Tokens_init_89 rfl 1 rfl ?_
  refine g_lald (pc1 := 91) d_Tokens_init_90 rfl sh_5 (by decide) (vin_lit (x := 14) (by decide)) ?_
  refine Wp.vall (y := 11) (by rw [show (14 : Int32).toNatClampNeg = 14 from by decide]; exact q546) ?_
  refine g_iload_n (pc1 := 92) d_Tokens_init_91 rfl 3 rfl ?_
  refine g_callS (pc1 := 95) (E' := (0, 0, 9)) (As := [.long 11, .int 105]) (rest := [.int 14, .ref 5]) d_Tokens_init_92 rfl mo_Tokens_37 ms_Tokens_withLetter (by decide) rfl rfl (Nat.le_of_ble_eq_true rfl) ⟨Nat.le_of_ble_eq_true rfl, Nat.le_of_ble_eq_true rfl⟩ rfl ?_
  refine t0_withLetter ?_
  dsimp only [psh]
  refine Wp.vall (y := 361) (by decide +kernel) ?_
  refine g_last (pc1 := 96) d_Tokens_init_95 rfl sh_5 (by decide) (vin_lit (x := 14) (by decide)) ?_
  rw [show ((14 : Int32).toNatClampNeg) = 14 from by decide]
  refine Wp.topL (fun L547 eL547 => ?_)
  have Z548 : ∀ j : Nat, 14 < j → L547 5 j = 0 := fun j hj => (rdL_ne eL547 (fun q => by omega)).trans (Z545 j (by omega))
  have q549 : L547 5 14 = 361 := rdL_eq eL547
  refine g_iinc (pc1 := 99) (v := 74) (lv' := [(0, .ref 4), (1, .int 14), (2, .int 74), (3, .int 105)]) d_Tokens_init_96 rfl 2 rfl (by decide) (by decide) [1, 2, 0, 3] rfl ?_
  refine g_goto (tgt := 43) d_Tokens_init_99 (by decide) ?_
  refine g_iload_n (pc1 := 44) d_Tokens_init_43 rfl 2 rfl ?_
  refine g_strlen (pc1 := 49) rfl d_Tokens_init_44 d_Tokens_init_46 rfl (Nat.le_of_ble_eq_true rfl) ⟨Nat.le_of_ble_eq_true rfl, Nat.le_of_ble_eq_true rfl⟩ ?_
  refine g_icmp_ge (pc1 := 52) (tgt := 102) d_Tokens_init_49 (by decide) rfl (fun h => absurd h (by decide)) (fun _ => ?_)
  refine g_strchr (pc1 := 58) (v := 110) rfl d_Tokens_init_52 d_Tokens_init_54 d_Tokens_init_55 rfl 2 rfl (by decide) (by decide) (by decide +kernel) (Nat.le_of_ble_eq_true rfl) ⟨Nat.le_of_ble_eq_true rfl, Nat.le_of_ble_eq_true rfl⟩ ?_
  refine g_istore_n (pc1 := 59) (lv' := [(0, .ref 4), (1, .int 14), (2, .int 74), (3, .int 110)]) d_Tokens_init_58 rfl rfl (by decide) [1, 2, 3, 0] rfl ?_
  refine g_iload_n (pc1 := 60) d_Tokens_init_59 rfl 3 rfl ?_
  refine g_bipush (pc1 := 62) (v := 32) d_Tokens_init_60 rfl (by decide) ?_
  refine g_icmp_ne (pc1 := 65) (tgt := 71) d_Tokens_init_62 (by decide) rfl (fun _ => ?_) (fun h => absurd h (by decide))
  refine g_iload_n (pc1 := 72) d_Tokens_init_71 rfl 1 rfl ?_
  refine g_aload_n (pc1 := 73) d_Tokens_init_72 rfl 0 rfl ?_
  refine g_getr (pc1 := 76) d_Tokens_init_73 rfl ⟨_, fo_Tokens_9⟩ sh_4 (by decide) q368 ?_
  refine g_alen (pc1 := 77) (v := 21) d_Tokens_init_76 rfl sh_5 (by decide) (by decide) (by decide) (by decide) ?_
  refine g_icmp_ge (pc1 := 80) (tgt := 96) d_Tokens_init_77 (by decide) rfl (fun h => absurd h (by decide)) (fun _ => ?_)
  refine g_aload_n (pc1 := 81) d_Tokens_init_80 rfl 0 rfl ?_
  refine g_getr (pc1 := 84) d_Tokens_init_81 rfl ⟨_, fo_Tokens_9⟩ sh_4 (by decide) q368 ?_
  refine g_iload_n (pc1 := 85) d_Tokens_init_84 rfl 1 rfl ?_
  refine g_aload_n (pc1 := 86) d_Tokens_init_85 rfl 0 rfl ?_
  refine g_getr (pc1 := 89) d_Tokens_init_86 rfl ⟨_, fo_Tokens_9⟩ sh_4 (by decide) q368 ?_
  refine g_iload_n (pc1 := 90) d_Tokens_init_89 rfl 1 rfl ?_
  refine g_lald (pc1 := 91) d_Tokens_init_90 rfl sh_5 (by decide) (vin_lit (x := 14) (by decide)) ?_
  refine Wp.vall (y := 361) (by rw [show (14 : Int32).toNatClampNeg = 14 from by decide]; exact q549) ?_
  refine g_iload_n (pc1 := 92) d_Tokens_init_91 rfl 3 rfl ?_
  refine g_callS (pc1 := 95) (E' := (0, 0, 9)) (As := [.long 361, .int 110]) (rest := [.int 14, .ref 5]) d_Tokens_init_92 rfl mo_Tokens_37 ms_Tokens_withLetter (by decide) rfl rfl (Nat.le_of_ble_eq_true rfl) ⟨Nat.le_of_ble_eq_true rfl, Nat.le_of_ble_eq_true rfl⟩ rfl ?_
  refine t0_withLetter ?_
  dsimp only [psh]
  refine Wp.vall (y := 11566) (by decide +kernel) ?_
  refine g_last (pc1 := 96) d_Tokens_init_95 rfl sh_5 (by decide) (vin_lit (x := 14) (by decide)) ?_
  rw [show ((14 : Int32).toNatClampNeg) = 14 from by decide]
  refine Wp.topL (fun L550 eL550 => ?_)
  have Z551 : ∀ j : Nat, 14 < j → L550 5 j = 0 := fun j hj => (rdL_ne eL550 (fun q => by omega)).trans (Z548 j (by omega))
  have q552 : L550 5 14 = 11566 := rdL_eq eL550
  refine g_iinc (pc1 := 99) (v := 75) (lv' := [(0, .ref 4), (1, .int 14), (2, .int 75), (3, .int 110)]) d_Tokens_init_96 rfl 2 rfl (by decide) (by decide) [1, 2, 0, 3] rfl ?_
  refine g_goto (tgt := 43) d_Tokens_init_99 (by decide) ?_
  refine g_iload_n (pc1 := 44) d_Tokens_init_43 rfl 2 rfl ?_
  refine g_strlen (pc1 := 49) rfl d_Tokens_init_44 d_Tokens_init_46 rfl (Nat.le_of_ble_eq_true rfl) ⟨Nat.le_of_ble_eq_true rfl, Nat.le_of_ble_eq_true rfl⟩ ?_
  refine g_icmp_ge (pc1 := 52) (tgt := 102) d_Tokens_init_49 (by decide) rfl (fun h => absurd h (by decide)) (fun _ => ?_)
  refine g_strchr (pc1 := 58) (v := 100) rfl d_Tokens_init_52 d_Tokens_init_54 d_Tokens_init_55 rfl 2 rfl (by decide) (by decide) (by decide +kernel) (Nat.le_of_ble_eq_true rfl) ⟨Nat.le_of_ble_eq_true rfl, Nat.le_of_ble_eq_true rfl⟩ ?_
  refine g_istore_n (pc1 := 59) (lv' := [(0, .ref 4), (1, .int 14), (2, .int 75), (3, .int 100)]) d_Tokens_init_58 rfl rfl (by decide) [1, 2, 3, 0] rfl ?_
  refine g_iload_n (pc1 := 60) d_Tokens_init_59 rfl 3 rfl ?_
  refine g_bipush (pc1 := 62) (v := 32) d_Tokens_init_60 rfl (by decide) ?_
  refine g_icmp_ne (pc1 := 65) (tgt := 71) d_Tokens_init_62 (by decide) rfl (fun _ => ?_) (fun h => absurd h (by decide))
  refine g_iload_n (pc1 := 72) d_Tokens_init_71 rfl 1 rfl ?_
  refine g_aload_n (pc1 := 73) d_Tokens_init_72 rfl 0 rfl ?_
  refine g_getr (pc1 := 76) d_Tokens_init_73 rfl ⟨_, fo_Tokens_9⟩ sh_4 (by decide) q368 ?_
  refine g_alen (pc1 := 77) (v := 21) d_Tokens_init_76 rfl sh_5 (by decide) (by decide) (by decide) (by decide) ?_
  refine g_icmp_ge (pc1 := 80) (tgt := 96) d_Tokens_init_77 (by decide) rfl (fun h => absurd h (by decide)) (fun _ => ?_)
  refine g_aload_n (pc1 := 81) d_Tokens_init_80 rfl 0 rfl ?_
  refine g_getr (pc1 := 84) d_Tokens_init_81 rfl ⟨_, fo_Tokens_9⟩ sh_4 (by decide) q368 ?_
  refine g_iload_n (pc1 := 85) d_Tokens_init_84 rfl 1 rfl ?_
  refine g_aload_n (pc1 := 86) d_Tokens_init_85 rfl 0 rfl ?_
  refine g_getr (pc1 := 89) d_Tokens_init_86 rfl ⟨_, fo_Tokens_9⟩ sh_4 (by decide) q368 ?_
  refine g_iload_n (pc1 := 90) d_Tokens_init_89 rfl 1 rfl ?_
  refine g_lald (pc1 := 91) d_Tokens_init_90 rfl sh_5 (by decide) (vin_lit (x := 14) (by decide)) ?_
  refine Wp.vall (y := 11566) (by rw [show (14 : Int32).toNatClampNeg = 14 from by decide]; exact q552) ?_
  refine g_iload_n (pc1 := 92) d_Tokens_init_91 rfl 3 rfl ?_
  refine g_callS (pc1 := 95) (E' := (0, 0, 9)) (As := [.long 11566, .int 100]) (rest := [.int 14, .ref 5]) d_Tokens_init_92 rfl mo_Tokens_37 ms_Tokens_withLetter (by decide) rfl rfl (Nat.le_of_ble_eq_true rfl) ⟨Nat.le_of_ble_eq_true rfl, Nat.le_of_ble_eq_true rfl⟩ rfl ?_
  refine t0_withLetter ?_
  dsimp only [psh]
  refine Wp.vall (y := 370116) (by decide +kernel) ?_
  refine g_last (pc1 := 96) d_Tokens_init_95 rfl sh_5 (by decide) (vin_lit (x := 14) (by decide)) ?_
  rw [show ((14 : Int32).toNatClampNeg) = 14 from by decide]
  refine Wp.topL (fun L553 eL553 => ?_)
  have Z554 : ∀ j : Nat, 14 < j → L553 5 j = 0 := fun j hj => (rdL_ne eL553 (fun q => by omega)).trans (Z551 j (by omega))
  have q555 : L553 5 14 = 370116 := rdL_eq eL553
  refine g_iinc (pc1 := 99) (v := 76) (lv' := [(0, .ref 4), (1, .int 14), (2, .int 76), (3, .int 100)]) d_Tokens_init_96 rfl 2 rfl (by decide) (by decide) [1, 2, 0, 3] rfl ?_
  refine g_goto (tgt := 43) d_Tokens_init_99 (by decide) ?_
  refine g_iload_n (pc1 := 44) d_Tokens_init_43 rfl 2 rfl ?_
  refine g_strlen (pc1 := 49) rfl d_Tokens_init_44 d_Tokens_init_46 rfl (Nat.le_of_ble_eq_true rfl) ⟨Nat.le_of_ble_eq_true rfl, Nat.le_of_ble_eq_true rfl⟩ ?_
  refine g_icmp_ge (pc1 := 52) (tgt := 102) d_Tokens_init_49 (by decide) rfl (fun h => absurd h (by decide)) (fun _ => ?_)
  refine g_strchr (pc1 := 58) (v := 32) rfl d_Tokens_init_52 d_Tokens_init_54 d_Tokens_init_55 rfl 2 rfl (by decide) (by decide) (by decide +kernel) (Nat.le_of_ble_eq_true rfl) ⟨Nat.le_of_ble_eq_true rfl, Nat.le_of_ble_eq_true rfl⟩ ?_
  refine g_istore_n (pc1 := 59) (lv' := [(0, .ref 4), (1, .int 14), (2, .int 76), (3, .int 32)]) d_Tokens_init_58 rfl rfl (by decide) [1, 2, 3, 0] rfl ?_
  refine g_iload_n (pc1 := 60) d_Tokens_init_59 rfl 3 rfl ?_
  refine g_bipush (pc1 := 62) (v := 32) d_Tokens_init_60 rfl (by decide) ?_
  refine g_icmp_ne (pc1 := 65) (tgt := 71) d_Tokens_init_62 (by decide) rfl (fun h => absurd h (by decide)) (fun _ => ?_)
  refine g_iinc (pc1 := 68) (v := 15) (lv' := [(0, .ref 4), (1, .int 15), (2, .int 76), (3, .int 32)]) d_Tokens_init_65 rfl 1 rfl (by decide) (by decide) [1, 0, 2, 3] rfl ?_
  refine g_goto (tgt := 96) d_Tokens_init_68 (by decide) ?_
  refine g_iinc (pc1 := 99) (v := 77) (lv' := [(0, .ref 4), (1, .int 15), (2, .int 77), (3, .int 32)]) d_Tokens_init_96 rfl 2 rfl (by decide) (by decide) [1, 2, 0, 3] rfl ?_
  refine g_goto (tgt := 43) d_Tokens_init_99 (by decide) ?_
  refine g_iload_n (pc1 := 44) d_Tokens_init_43 rfl 2 rfl ?_
  refine g_strlen (pc1 := 49) rfl d_Tokens_init_44 d_Tokens_init_46 rfl (Nat.le_of_ble_eq_true rfl) ⟨Nat.le_of_ble_eq_true rfl, Nat.le_of_ble_eq_true rfl⟩ ?_
  refine g_icmp_ge (pc1 := 52) (tgt := 102) d_Tokens_init_49 (by decide) rfl (fun h => absurd h (by decide)) (fun _ => ?_)
  refine g_strchr (pc1 := 58) (v := 109) rfl d_Tokens_init_52 d_Tokens_init_54 d_Tokens_init_55 rfl 2 rfl (by decide) (by decide) (by decide +kernel) (Nat.le_of_ble_eq_true rfl) ⟨Nat.le_of_ble_eq_true rfl, Nat.le_of_ble_eq_true rfl⟩ ?_
  refine g_istore_n (pc1 := 59) (lv' := [(0, .ref 4), (1, .int 15), (2, .int 77), (3, .int 109)]) d_Tokens_init_58 rfl rfl (by decide) [1, 2, 3, 0] rfl ?_
  refine g_iload_n (pc1 := 60) d_Tokens_init_59 rfl 3 rfl ?_
  refine g_bipush (pc1 := 62) (v := 32) d_Tokens_init_60 rfl (by decide) ?_
  refine g_icmp_ne (pc1 := 65) (tgt := 71) d_Tokens_init_62 (by decide) rfl (fun _ => ?_) (fun h => absurd h (by decide))
  refine g_iload_n (pc1 := 72) d_Tokens_init_71 rfl 1 rfl ?_
  refine g_aload_n (pc1 := 73) d_Tokens_init_72 rfl 0 rfl ?_
  refine g_getr (pc1 := 76) d_Tokens_init_73 rfl ⟨_, fo_Tokens_9⟩ sh_4 (by decide) q368 ?_
  refine g_alen (pc1 := 77) (v := 21) d_Tokens_init_76 rfl sh_5 (by decide) (by decide) (by decide) (by decide) ?_
  refine g_icmp_ge (pc1 := 80) (tgt := 96) d_Tokens_init_77 (by decide) rfl (fun h => absurd h (by decide)) (fun _ => ?_)
  refine g_aload_n (pc1 := 81) d_Tokens_init_80 rfl 0 rfl ?_
  refine g_getr (pc1 := 84) d_Tokens_init_81 rfl ⟨_, fo_Tokens_9⟩ sh_4 (by decide) q368 ?_
  refine g_iload_n (pc1 := 85) d_Tokens_init_84 rfl 1 rfl ?_
  refine g_aload_n (pc1 := 86) d_Tokens_init_85 rfl 0 rfl ?_
  refine g_getr (pc1 := 89) d_Tokens_init_86 rfl ⟨_, fo_Tokens_9⟩ sh_4 (by decide) q368 ?_
  refine g_iload_n (pc1 := 90) d_Tokens_init_89 rfl 1 rfl ?_
  refine g_lald (pc1 := 91) d_Tokens_init_90 rfl sh_5 (by decide) (vin_lit (x := 15) (by decide)) ?_
  refine Wp.vall (y := 0) (by rw [show (15 : Int32).toNatClampNeg = 15 from by decide]; exact (Z554 15 (by decide))) ?_
  refine g_iload_n (pc1 := 92) d_Tokens_init_91 rfl 3 rfl ?_
  refine g_callS (pc1 := 95) (E' := (0, 0, 9)) (As := [.long 0, .int 109]) (rest := [.int 15, .ref 5]) d_Tokens_init_92 rfl mo_Tokens_37 ms_Tokens_withLetter (by decide) rfl rfl (Nat.le_of_ble_eq_true rfl) ⟨Nat.le_of_ble_eq_true rfl, Nat.le_of_ble_eq_true rfl⟩ rfl ?_
  refine t0_withLetter ?_
  dsimp only [psh]
  refine Wp.vall (y := 13) (by decide +kernel) ?_
  refine g_last (pc1 := 96) d_Tokens_init_95 rfl sh_5 (by decide) (vin_lit (x := 15) (by decide)) ?_
  rw [show ((15 : Int32).toNatClampNeg) = 15 from by decide]
  refine Wp.topL (fun L556 eL556 => ?_)
  have Z557 : ∀ j : Nat, 15 < j → L556 5 j = 0 := fun j hj => (rdL_ne eL556 (fun q => by omega)).trans (Z554 j (by omega))
  have q558 : L556 5 15 = 13 := rdL_eq eL556
  refine g_iinc (pc1 := 99) (v := 78) (lv' := [(0, .ref 4), (1, .int 15), (2, .int 78), (3, .int 109)]) d_Tokens_init_96 rfl 2 rfl (by decide) (by decide) [1, 2, 0, 3] rfl ?_
  refine g_goto (tgt := 43) d_Tokens_init_99 (by decide) ?_
  refine g_iload_n (pc1 := 44) d_Tokens_init_43 rfl 2 rfl ?_
  refine g_strlen (pc1 := 49) rfl d_Tokens_init_44 d_Tokens_init_46 rfl (Nat.le_of_ble_eq_true rfl) ⟨Nat.le_of_ble_eq_true rfl, Nat.le_of_ble_eq_true rfl⟩ ?_
  refine g_icmp_ge (pc1 := 52) (tgt := 102) d_Tokens_init_49 (by decide) rfl (fun h => absurd h (by decide)) (fun _ => ?_)
  refine g_strchr (pc1 := 58) (v := 97) rfl d_Tokens_init_52 d_Tokens_init_54 d_Tokens_init_55 rfl 2 rfl (by decide) (by decide) (by decide +kernel) (Nat.le_of_ble_eq_true rfl) ⟨Nat.le_of_ble_eq_true rfl, Nat.le_of_ble_eq_true rfl⟩ ?_
  refine g_istore_n (pc1 := 59) (lv' := [(0, .ref 4), (1, .int 15), (2, .int 78), (3, .int 97)]) d_Tokens_init_58 rfl rfl (by decide) [1, 2, 3, 0] rfl ?_
  refine g_iload_n (pc1 := 60) d_Tokens_init_59 rfl 3 rfl ?_
  refine g_bipush (pc1 := 62) (v := 32) d_Tokens_init_60 rfl (by decide) ?_
  refine g_icmp_ne (pc1 := 65) (tgt := 71) d_Tokens_init_62 (by decide) rfl (fun _ => ?_) (fun h => absurd h (by decide))
  refine g_iload_n (pc1 := 72) d_Tokens_init_71 rfl 1 rfl ?_
  refine g_aload_n (pc1 := 73) d_Tokens_init_72 rfl 0 rfl ?_
  refine g_getr (pc1 := 76) d_Tokens_init_73 rfl ⟨_, fo_Tokens_9⟩ sh_4 (by decide) q368 ?_
  refine g_alen (pc1 := 77) (v := 21) d_Tokens_init_76 rfl sh_5 (by decide) (by decide) (by decide) (by decide) ?_
  refine g_icmp_ge (pc1 := 80) (tgt := 96) d_Tokens_init_77 (by decide) rfl (fun h => absurd h (by decide)) (fun _ => ?_)
  refine g_aload_n (pc1 := 81) d_Tokens_init_80 rfl 0 rfl ?_
  refine g_getr (pc1 := 84) d_Tokens_init_81 rfl ⟨_, fo_Tokens_9⟩ sh_4 (by decide) q368 ?_
  refine g_iload_n (pc1 := 85) d_Tokens_init_84 rfl 1 rfl ?_
  refine g_aload_n (pc1 := 86) d_Tokens_init_85 rfl 0 rfl ?_
  refine g_getr (pc1 := 89) d_Tokens_init_86 rfl ⟨_, fo_Tokens_9⟩ sh_4 (by decide) q368 ?_
  refine g_iload_n (pc1 := 90) d_Tokens_init_89 rfl 1 rfl ?_
  refine g_lald (pc1 := 91) d_Tokens_init_90 rfl sh_5 (by decide) (vin_lit (x := 15) (by decide)) ?_
  refine Wp.vall (y := 13) (by rw [show (15 : Int32).toNatClampNeg = 15 from by decide]; exact q558) ?_
  refine g_iload_n (pc1 := 92) d_Tokens_init_91 rfl 3 rfl ?_
  refine g_callS (pc1 := 95) (E' := (0, 0, 9)) (As := [.long 13, .int 97]) (rest := [.int 15, .ref 5]) d_Tokens_init_92 rfl mo_Tokens_37 ms_Tokens_withLetter (by decide) rfl rfl (Nat.le_of_ble_eq_true rfl) ⟨Nat.le_of_ble_eq_true rfl, Nat.le_of_ble_eq_true rfl⟩ rfl ?_
  refine t0_withLetter ?_
  dsimp only [psh]
  refine Wp.vall (y := 417) (by decide +kernel) ?_
  refine g_last (pc1 := 96) d_Tokens_init_95 rfl sh_5 (by decide) (vin_lit (x := 15) (by decide)) ?_
  rw [show ((15 : Int32).toNatClampNeg) = 15 from by decide]
  refine Wp.topL (fun L559 eL559 => ?_)
  have Z560 : ∀ j : Nat, 15 < j → L559 5 j = 0 := fun j hj => (rdL_ne eL559 (fun q => by omega)).trans (Z557 j (by omega))
  have q561 : L559 5 15 = 417 := rdL_eq eL559
  refine g_iinc (pc1 := 99) (v := 79) (lv' := [(0, .ref 4), (1, .int 15), (2, .int 79), (3, .int 97)]) d_Tokens_init_96 rfl 2 rfl (by decide) (by decide) [1, 2, 0, 3] rfl ?_
  refine g_goto (tgt := 43) d_Tokens_init_99 (by decide) ?_
  refine g_iload_n (pc1 := 44) d_Tokens_init_43 rfl 2 rfl ?_
  refine g_strlen (pc1 := 49) rfl d_Tokens_init_44 d_Tokens_init_46 rfl (Nat.le_of_ble_eq_true rfl) ⟨Nat.le_of_ble_eq_true rfl, Nat.le_of_ble_eq_true rfl⟩ ?_
  refine g_icmp_ge (pc1 := 52) (tgt := 102) d_Tokens_init_49 (by decide) rfl (fun h => absurd h (by decide)) (fun _ => ?_)
  refine g_strchr (pc1 := 58) (v := 110) rfl d_Tokens_init_52 d_Tokens_init_54 d_Tokens_init_55 rfl 2 rfl (by decide) (by decide) (by decide +kernel) (Nat.le_of_ble_eq_true rfl) ⟨Nat.le_of_ble_eq_true rfl, Nat.le_of_ble_eq_true rfl⟩ ?_
  refine g_istore_n (pc1 := 59) (lv' := [(0, .ref 4), (1, .int 15), (2, .int 79), (3, .int 110)]) d_Tokens_init_58 rfl rfl (by decide) [1, 2, 3, 0] rfl ?_
  refine g_iload_n (pc1 := 60) d_Tokens_init_59 rfl 3 rfl ?_
  refine g_bipush (pc1 := 62) (v := 32) d_Tokens_init_60 rfl (by decide) ?_
  refine g_icmp_ne (pc1 := 65) (tgt := 71) d_Tokens_init_62 (by decide) rfl (fun _ => ?_) (fun h => absurd h (by decide))
  refine g_iload_n (pc1 := 72) d_Tokens_init_71 rfl 1 rfl ?_
  refine g_aload_n (pc1 := 73) d_Tokens_init_72 rfl 0 rfl ?_
  refine g_getr (pc1 := 76) d_Tokens_init_73 rfl ⟨_, fo_Tokens_9⟩ sh_4 (by decide) q368 ?_
  refine g_alen (pc1 := 77) (v := 21) d_Tokens_init_76 rfl sh_5 (by decide) (by decide) (by decide) (by decide) ?_
  refine g_icmp_ge (pc1 := 80) (tgt := 96) d_Tokens_init_77 (by decide) rfl (fun h => absurd h (by decide)) (fun _ => ?_)
  refine g_aload_n (pc1 := 81) d_Tokens_init_80 rfl 0 rfl ?_
  refine g_getr (pc1 := 84) d_Tokens_init_81 rfl ⟨_, fo_Tokens_9⟩ sh_4 (by decide) q368 ?_
  refine g_iload_n (pc1 := 85) d_Tokens_init_84 rfl 1 rfl ?_
  refine g_aload_n (pc1 := 86) d_Tokens_init_85 rfl 0 rfl ?_
  refine g_getr (pc1 := 89) d_Tokens_init_86 rfl ⟨_, fo_Tokens_9⟩ sh_4 (by decide) q368 ?_
  refine g_iload_n (pc1 := 90) d_Tokens_init_89 rfl 1 rfl ?_
  refine g_lald (pc1 := 91) d_Tokens_init_90 rfl sh_5 (by decide) (vin_lit (x := 15) (by decide)) ?_
  refine Wp.vall (y := 417) (by rw [show (15 : Int32).toNatClampNeg = 15 from by decide]; exact q561) ?_
  refine g_iload_n (pc1 := 92) d_Tokens_init_91 rfl 3 rfl ?_
  refine g_callS (pc1 := 95) (E' := (0, 0, 9)) (As := [.long 417, .int 110]) (rest := [.int 15, .ref 5]) d_Tokens_init_92 rfl mo_Tokens_37 ms_Tokens_withLetter (by decide) rfl rfl (Nat.le_of_ble_eq_true rfl) ⟨Nat.le_of_ble_eq_true rfl, Nat.le_of_ble_eq_true rfl⟩ rfl ?_
  refine t0_withLetter ?_
  dsimp only [psh]
  refine Wp.vall (y := 13358) (by decide +kernel) ?_
  refine g_last (pc1 := 96) d_Tokens_init_95 rfl sh_5 (by decide) (vin_lit (x := 15) (by decide)) ?_
  rw [show ((15 : Int32).toNatClampNeg) = 15 from by decide]
  refine Wp.topL (fun L562 eL562 => ?_)
  have Z563 : ∀ j : Nat, 15 < j → L562 5 j = 0 := fun j hj => (rdL_ne eL562 (fun q => by omega)).trans (Z560 j (by omega))
  have q564 : L562 5 15 = 13358 := rdL_eq eL562
  refine g_iinc (pc1 := 99) (v := 80) (lv' := [(0, .ref 4), (1, .int 15), (2, .int 80), (3, .int 110)]) d_Tokens_init_96 rfl 2 rfl (by decide) (by decide) [1, 2, 0, 3] rfl ?_
  refine g_goto (tgt := 43) d_Tokens_init_99 (by decide) ?_
  refine g_iload_n (pc1 := 44) d_Tokens_init_43 rfl 2 rfl ?_
  refine g_strlen (pc1 := 49) rfl d_Tokens_init_44 d_Tokens_init_46 rfl (Nat.le_of_ble_eq_true rfl) ⟨Nat.le_of_ble_eq_true rfl, Nat.le_of_ble_eq_true rfl⟩ ?_
  refine g_icmp_ge (pc1 := 52) (tgt := 102) d_Tokens_init_49 (by decide) rfl (fun h => absurd h (by decide)) (fun _ => ?_)
  refine g_strchr (pc1 := 58) (v := 121) rfl d_Tokens_init_52 d_Tokens_init_54 d_Tokens_init_55 rfl 2 rfl (by decide) (by decide) (by decide +kernel) (Nat.le_of_ble_eq_true rfl) ⟨Nat.le_of_ble_eq_true rfl, Nat.le_of_ble_eq_true rfl⟩ ?_
  refine g_istore_n (pc1 := 59) (lv' := [(0, .ref 4), (1, .int 15), (2, .int 80), (3, .int 121)]) d_Tokens_init_58 rfl rfl (by decide) [1, 2, 3, 0] rfl ?_
  refine g_iload_n (pc1 := 60) d_Tokens_init_59 rfl 3 rfl ?_
  refine g_bipush (pc1 := 62) (v := 32) d_Tokens_init_60 rfl (by decide) ?_
  refine g_icmp_ne (pc1 := 65) (tgt := 71) d_Tokens_init_62 (by decide) rfl (fun _ => ?_) (fun h => absurd h (by decide))
  refine g_iload_n (pc1 := 72) d_Tokens_init_71 rfl 1 rfl ?_
  refine g_aload_n (pc1 := 73) d_Tokens_init_72 rfl 0 rfl ?_
  refine g_getr (pc1 := 76) d_Tokens_init_73 rfl ⟨_, fo_Tokens_9⟩ sh_4 (by decide) q368 ?_
  refine g_alen (pc1 := 77) (v := 21) d_Tokens_init_76 rfl sh_5 (by decide) (by decide) (by decide) (by decide) ?_
  refine g_icmp_ge (pc1 := 80) (tgt := 96) d_Tokens_init_77 (by decide) rfl (fun h => absurd h (by decide)) (fun _ => ?_)
  refine g_aload_n (pc1 := 81) d_Tokens_init_80 rfl 0 rfl ?_
  refine g_getr (pc1 := 84) d_Tokens_init_81 rfl ⟨_, fo_Tokens_9⟩ sh_4 (by decide) q368 ?_
  refine g_iload_n (pc1 := 85) d_Tokens_init_84 rfl 1 rfl ?_
  refine g_aload_n (pc1 := 86) d_Tokens_init_85 rfl 0 rfl ?_
  refine g_getr (pc1 := 89) d_Tokens_init_86 rfl ⟨_, fo_Tokens_9⟩ sh_4 (by decide) q368 ?_
  refine g_iload_n (pc1 := 90) d_Tokens_init_89 rfl 1 rfl ?_
  refine g_lald (pc1 := 91) d_Tokens_init_90 rfl sh_5 (by decide) (vin_lit (x := 15) (by decide)) ?_
  refine Wp.vall (y := 13358) (by rw [show (15 : Int32).toNatClampNeg = 15 from by decide]; exact q564) ?_
  refine g_iload_n (pc1 := 92) d_Tokens_init_91 rfl 3 rfl ?_
  refine g_callS (pc1 := 95) (E' := (0, 0, 9)) (As := [.long 13358, .int 121]) (rest := [.int 15, .ref 5]) d_Tokens_init_92 rfl mo_Tokens_37 ms_Tokens_withLetter (by decide) rfl rfl (Nat.le_of_ble_eq_true rfl) ⟨Nat.le_of_ble_eq_true rfl, Nat.le_of_ble_eq_true rfl⟩ rfl ?_
  refine t0_withLetter ?_
  dsimp only [psh]
  refine Wp.vall (y := 427481) (by decide +kernel) ?_
  refine g_last (pc1 := 96) d_Tokens_init_95 rfl sh_5 (by decide) (vin_lit (x := 15) (by decide)) ?_
  rw [show ((15 : Int32).toNatClampNeg) = 15 from by decide]
  refine Wp.topL (fun L565 eL565 => ?_)
  have Z566 : ∀ j : Nat, 15 < j → L565 5 j = 0 := fun j hj => (rdL_ne eL565 (fun q => by omega)).trans (Z563 j (by omega))
  have q567 : L565 5 15 = 427481 := rdL_eq eL565
  refine g_iinc (pc1 := 99) (v := 81) (lv' := [(0, .ref 4), (1, .int 15), (2, .int 81), (3, .int 121)]) d_Tokens_init_96 rfl 2 rfl (by decide) (by decide) [1, 2, 0, 3] rfl ?_
  refine g_goto (tgt := 43) d_Tokens_init_99 (by decide) ?_
  refine g_iload_n (pc1 := 44) d_Tokens_init_43 rfl 2 rfl ?_
  refine g_strlen (pc1 := 49) rfl d_Tokens_init_44 d_Tokens_init_46 rfl (Nat.le_of_ble_eq_true rfl) ⟨Nat.le_of_ble_eq_true rfl, Nat.le_of_ble_eq_true rfl⟩ ?_
  refine g_icmp_ge (pc1 := 52) (tgt := 102) d_Tokens_init_49 (by decide) rfl (fun h => absurd h (by decide)) (fun _ => ?_)
  refine g_strchr (pc1 := 58) (v := 32) rfl d_Tokens_init_52 d_Tokens_init_54 d_Tokens_init_55 rfl 2 rfl (by decide) (by decide) (by decide +kernel) (Nat.le_of_ble_eq_true rfl) ⟨Nat.le_of_ble_eq_true rfl, Nat.le_of_ble_eq_true rfl⟩ ?_
  refine g_istore_n (pc1 := 59) (lv' := [(0, .ref 4), (1, .int 15), (2, .int 81), (3, .int 32)]) d_Tokens_init_58 rfl rfl (by decide) [1, 2, 3, 0] rfl ?_
  refine g_iload_n (pc1 := 60) d_Tokens_init_59 rfl 3 rfl ?_
  refine g_bipush (pc1 := 62) (v := 32) d_Tokens_init_60 rfl (by decide) ?_
  refine g_icmp_ne (pc1 := 65) (tgt := 71) d_Tokens_init_62 (by decide) rfl (fun h => absurd h (by decide)) (fun _ => ?_)
  refine g_iinc (pc1 := 68) (v := 16) (lv' := [(0, .ref 4), (1, .int 16), (2, .int 81), (3, .int 32)]) d_Tokens_init_65 rfl 1 rfl (by decide) (by decide) [1, 0, 2, 3] rfl ?_
  refine g_goto (tgt := 96) d_Tokens_init_68 (by decide) ?_
  refine g_iinc (pc1 := 99) (v := 82) (lv' := [(0, .ref 4), (1, .int 16), (2, .int 82), (3, .int 32)]) d_Tokens_init_96 rfl 2 rfl (by decide) (by decide) [1, 2, 0, 3] rfl ?_
  refine g_goto (tgt := 43) d_Tokens_init_99 (by decide) ?_
  refine g_iload_n (pc1 := 44) d_Tokens_init_43 rfl 2 rfl ?_
  refine g_strlen (pc1 := 49) rfl d_Tokens_init_44 d_Tokens_init_46 rfl (Nat.le_of_ble_eq_true rfl) ⟨Nat.le_of_ble_eq_true rfl, Nat.le_of_ble_eq_true rfl⟩ ?_
  refine g_icmp_ge (pc1 := 52) (tgt := 102) d_Tokens_init_49 (by decide) rfl (fun h => absurd h (by decide)) (fun _ => ?_)
  refine g_strchr (pc1 := 58) (v := 100) rfl d_Tokens_init_52 d_Tokens_init_54 d_Tokens_init_55 rfl 2 rfl (by decide) (by decide) (by decide +kernel) (Nat.le_of_ble_eq_true rfl) ⟨Nat.le_of_ble_eq_true rfl, Nat.le_of_ble_eq_true rfl⟩ ?_
  refine g_istore_n (pc1 := 59) (lv' := [(0, .ref 4), (1, .int 16), (2, .int 82), (3, .int 100)]) d_Tokens_init_58 rfl rfl (by decide) [1, 2, 3, 0] rfl ?_
  refine g_iload_n (pc1 := 60) d_Tokens_init_59 rfl 3 rfl ?_
  refine g_bipush (pc1 := 62) (v := 32) d_Tokens_init_60 rfl (by decide) ?_
  refine g_icmp_ne (pc1 := 65) (tgt := 71) d_Tokens_init_62 (by decide) rfl (fun _ => ?_) (fun h => absurd h (by decide))
  refine g_iload_n (pc1 := 72) d_Tokens_init_71 rfl 1 rfl ?_
  refine g_aload_n (pc1 := 73) d_Tokens_init_72 rfl 0 rfl ?_
  refine g_getr (pc1 := 76) d_Tokens_init_73 rfl ⟨_, fo_Tokens_9⟩ sh_4 (by decide) q368 ?_
  refine g_alen (pc1 := 77) (v := 21) d_Tokens_init_76 rfl sh_5 (by decide) (by decide) (by decide) (by decide) ?_
  refine g_icmp_ge (pc1 := 80) (tgt := 96) d_Tokens_init_77 (by decide) rfl (fun h => absurd h (by decide)) (fun _ => ?_)
  refine g_aload_n (pc1 := 81) d_Tokens_init_80 rfl 0 rfl ?_
  refine g_getr (pc1 := 84) d_Tokens_init_81 rfl ⟨_, fo_Tokens_9⟩ sh_4 (by decide) q368 ?_
  refine g_iload_n (pc1 := 85) d_Tokens_init_84 rfl 1 rfl ?_
  refine g_aload_n (pc1 := 86) d_Tokens_init_85 rfl 0 rfl ?_
  refine g_getr (pc1 := 89) d_Tokens_init_86 rfl ⟨_, fo_Tokens_9⟩ sh_4 (by decide) q368 ?_
  refine g_iload_n (pc1 := 90) d_Tokens_init_89 rfl 1 rfl ?_
  refine g_lald (pc1 := 91) d_Tokens_init_90 rfl sh_5 (by decide) (vin_lit (x := 16) (by decide)) ?_
  refine Wp.vall (y := 0) (by rw [show (16 : Int32).toNatClampNeg = 16 from by decide]; exact (Z566 16 (by decide))) ?_
  refine g_iload_n (pc1 := 92) d_Tokens_init_91 rfl 3 rfl ?_
  refine g_callS (pc1 := 95) (E' := (0, 0, 9)) (As := [.long 0, .int 100]) (rest := [.int 16, .ref 5]) d_Tokens_init_92 rfl mo_Tokens_37 ms_Tokens_withLetter (by decide) rfl rfl (Nat.le_of_ble_eq_true rfl) ⟨Nat.le_of_ble_eq_true rfl, Nat.le_of_ble_eq_true rfl⟩ rfl ?_
  refine t0_withLetter ?_
  dsimp only [psh]
  refine Wp.vall (y := 4) (by decide +kernel) ?_
  refine g_last (pc1 := 96) d_Tokens_init_95 rfl sh_5 (by decide) (vin_lit (x := 16) (by decide)) ?_
  rw [show ((16 : Int32).toNatClampNeg) = 16 from by decide]
  refine Wp.topL (fun L568 eL568 => ?_)
  have Z569 : ∀ j : Nat, 16 < j → L568 5 j = 0 := fun j hj => (rdL_ne eL568 (fun q => by omega)).trans (Z566 j (by omega))
  have q570 : L568 5 16 = 4 := rdL_eq eL568
  refine g_iinc (pc1 := 99) (v := 83) (lv' := [(0, .ref 4), (1, .int 16), (2, .int 83), (3, .int 100)]) d_Tokens_init_96 rfl 2 rfl (by decide) (by decide) [1, 2, 0, 3] rfl ?_
  refine g_goto (tgt := 43) d_Tokens_init_99 (by decide) ?_
  refine g_iload_n (pc1 := 44) d_Tokens_init_43 rfl 2 rfl ?_
  refine g_strlen (pc1 := 49) rfl d_Tokens_init_44 d_Tokens_init_46 rfl (Nat.le_of_ble_eq_true rfl) ⟨Nat.le_of_ble_eq_true rfl, Nat.le_of_ble_eq_true rfl⟩ ?_
  refine g_icmp_ge (pc1 := 52) (tgt := 102) d_Tokens_init_49 (by decide) rfl (fun h => absurd h (by decide)) (fun _ => ?_)
  refine g_strchr (pc1 := 58) (v := 97) rfl d_Tokens_init_52 d_Tokens_init_54 d_Tokens_init_55 rfl 2 rfl (by decide) (by decide) (by decide +kernel) (Nat.le_of_ble_eq_true rfl) ⟨Nat.le_of_ble_eq_true rfl, Nat.le_of_ble_eq_true rfl⟩ ?_
  refine g_istore_n (pc1 := 59) (lv' := [(0, .ref 4), (1, .int 16), (2, .int 83), (3, .int 97)]) d_Tokens_init_58 rfl rfl (by decide) [1, 2, 3, 0] rfl ?_
  refine g_iload_n (pc1 := 60) d_Tokens_init_59 rfl 3 rfl ?_
  refine g_bipush (pc1 := 62) (v := 32) d_Tokens_init_60 rfl (by decide) ?_
  refine g_icmp_ne (pc1 := 65) (tgt := 71) d_Tokens_init_62 (by decide) rfl (fun _ => ?_) (fun h => absurd h (by decide))
  refine g_iload_n (pc1 := 72) d_Tokens_init_71 rfl 1 rfl ?_
  refine g_aload_n (pc1 := 73) d_Tokens_init_72 rfl 0 rfl ?_
  refine g_getr (pc1 := 76) d_Tokens_init_73 rfl ⟨_, fo_Tokens_9⟩ sh_4 (by decide) q368 ?_
  refine g_alen (pc1 := 77) (v := 21) d_Tokens_init_76 rfl sh_5 (by decide) (by decide) (by decide) (by decide) ?_
  refine g_icmp_ge (pc1 := 80) (tgt := 96) d_Tokens_init_77 (by decide) rfl (fun h => absurd h (by decide)) (fun _ => ?_)
  refine g_aload_n (pc1 := 81) d_Tokens_init_80 rfl 0 rfl ?_
  refine g_getr (pc1 := 84) d_Tokens_init_81 rfl ⟨_, fo_Tokens_9⟩ sh_4 (by decide) q368 ?_
  refine g_iload_n (pc1 := 85) d_Tokens_init_84 rfl 1 rfl ?_
  refine g_aload_n (pc1 := 86) d_Tokens_init_85 rfl 0 rfl ?_
  refine g_getr (pc1 := 89) d_Tokens_init_86 rfl ⟨_, fo_Tokens_9⟩ sh_4 (by decide) q368 ?_
  refine g_iload_n (pc1 := 90) d_Tokens_init_89 rfl 1 rfl ?_
  refine g_lald (pc1 := 91) d_Tokens_init_90 rfl sh_5 (by decide) (vin_lit (x := 16) (by decide)) ?_
  refine Wp.vall (y := 4) (by rw [show (16 : Int32).toNatClampNeg = 16 from by decide]; exact q570) ?_
  refine g_iload_n (pc1 := 92) d_Tokens_init_91 rfl 3 rfl ?_
  refine g_callS (pc1 := 95) (E' := (0, 0, 9)) (As := [.long 4, .int 97]) (rest := [.int 16, .ref 5]) d_Tokens_init_92 rfl mo_Tokens_37 ms_Tokens_withLetter (by decide) rfl rfl (Nat.le_of_ble_eq_true rfl) ⟨Nat.le_of_ble_eq_true rfl, Nat.le_of_ble_eq_true rfl⟩ rfl ?_
  refine t0_withLetter ?_
  dsimp only [psh]
  refine Wp.vall (y := 129) (by decide +kernel) ?_
  refine g_last (pc1 := 96) d_Tokens_init_95 rfl sh_5 (by decide) (vin_lit (x := 16) (by decide)) ?_
  rw [show ((16 : Int32).toNatClampNeg) = 16 from by decide]
  refine Wp.topL (fun L571 eL571 => ?_)
  have Z572 : ∀ j : Nat, 16 < j → L571 5 j = 0 := fun j hj => (rdL_ne eL571 (fun q => by omega)).trans (Z569 j (by omega))
  have q573 : L571 5 16 = 129 := rdL_eq eL571
  refine g_iinc (pc1 := 99) (v := 84) (lv' := [(0, .ref 4), (1, .int 16), (2, .int 84), (3, .int 97)]) d_Tokens_init_96 rfl 2 rfl (by decide) (by decide) [1, 2, 0, 3] rfl ?_
  refine g_goto (tgt := 43) d_Tokens_init_99 (by decide) ?_
  refine g_iload_n (pc1 := 44) d_Tokens_init_43 rfl 2 rfl ?_
  refine g_strlen (pc1 := 49) rfl d_Tokens_init_44 d_Tokens_init_46 rfl (Nat.le_of_ble_eq_true rfl) ⟨Nat.le_of_ble_eq_true rfl, Nat.le_of_ble_eq_true rfl⟩ ?_
  refine g_icmp_ge (pc1 := 52) (tgt := 102) d_Tokens_init_49 (by decide) rfl (fun h => absurd h (by decide)) (fun _ => ?_)
  refine g_strchr (pc1 := 58) (v := 121) rfl d_Tokens_init_52 d_Tokens_init_54 d_Tokens_init_55 rfl 2 rfl (by decide) (by decide) (by decide +kernel) (Nat.le_of_ble_eq_true rfl) ⟨Nat.le_of_ble_eq_true rfl, Nat.le_of_ble_eq_true rfl⟩ ?_
  refine g_istore_n (pc1 := 59) (lv' := [(0, .ref 4), (1, .int 16), (2, .int 84), (3, .int 121)]) d_Tokens_init_58 rfl rfl (by decide) [1, 2, 3, 0] rfl ?_
  refine g_iload_n (pc1 := 60) d_Tokens_init_59 rfl 3 rfl ?_
  refine g_bipush (pc1 := 62) (v := 32) d_Tokens_init_60 rfl (by decide) ?_
  refine g_icmp_ne (pc1 := 65) (tgt := 71) d_Tokens_init_62 (by decide) rfl (fun _ => ?_) (fun h => absurd h (by decide))
  refine g_iload_n (pc1 := 72) d_Tokens_init_71 rfl 1 rfl ?_
  refine g_aload_n (pc1 := 73) d_Tokens_init_72 rfl 0 rfl ?_
  refine g_getr (pc1 := 76) d_Tokens_init_73 rfl ⟨_, fo_Tokens_9⟩ sh_4 (by decide) q368 ?_
  refine g_alen (pc1 := 77) (v := 21) d_Tokens_init_76 rfl sh_5 (by decide) (by decide) (by decide) (by decide) ?_
  refine g_icmp_ge (pc1 := 80) (tgt := 96) d_Tokens_init_77 (by decide) rfl (fun h => absurd h (by decide)) (fun _ => ?_)
  refine g_aload_n (pc1 := 81) d_Tokens_init_80 rfl 0 rfl ?_
  refine g_getr (pc1 := 84) d_Tokens_init_81 rfl ⟨_, fo_Tokens_9⟩ sh_4 (by decide) q368 ?_
  refine g_iload_n (pc1 := 85) d_Tokens_init_84 rfl 1 rfl ?_
  refine g_aload_n (pc1 := 86) d_Tokens_init_85 rfl 0 rfl ?_
  refine g_getr (pc1 := 89) d_Tokens_init_86 rfl ⟨_, fo_Tokens_9⟩ sh_4 (by decide) q368 ?_
  refine g_iload_n (pc1 := 90) d_Tokens_init_89 rfl 1 rfl ?_
  refine g_lald (pc1 := 91) d_Tokens_init_90 rfl sh_5 (by decide) (vin_lit (x := 16) (by decide)) ?_
  refine Wp.vall (y := 129) (by rw [show (16 : Int32).toNatClampNeg = 16 from by decide]; exact q573) ?_
  refine g_iload_n (pc1 := 92) d_Tokens_init_91 rfl 3 rfl ?_
  refine g_callS (pc1 := 95) (E' := (0, 0, 9)) (As := [.long 129, .int 121]) (rest := [.int 16, .ref 5]) d_Tokens_init_92 rfl mo_Tokens_37 ms_Tokens_withLetter (by decide) rfl rfl (Nat.le_of_ble_eq_true rfl) ⟨Nat.le_of_ble_eq_true rfl, Nat.le_of_ble_eq_true rfl⟩ rfl ?_
  refine t0_withLetter ?_
  dsimp only [psh]
  refine Wp.vall (y := 4153) (by decide +kernel) ?_
  refine g_last (pc1 := 96) d_Tokens_init_95 rfl sh_5 (by decide) (vin_lit (x := 16) (by decide)) ?_
  rw [show ((16 : Int32).toNatClampNeg) = 16 from by decide]
  refine Wp.topL (fun L574 eL574 => ?_)
  have Z575 : ∀ j : Nat, 16 < j → L574 5 j = 0 := fun j hj => (rdL_ne eL574 (fun q => by omega)).trans (Z572 j (by omega))
  have q576 : L574 5 16 = 4153 := rdL_eq eL574
  refine g_iinc (pc1 := 99) (v := 85) (lv' := [(0, .ref 4), (1, .int 16), (2, .int 85), (3, .int 121)]) d_Tokens_init_96 rfl 2 rfl (by decide) (by decide) [1, 2, 0, 3] rfl ?_
  refine g_goto (tgt := 43) d_Tokens_init_99 (by decide) ?_
  refine g_iload_n (pc1 := 44) d_Tokens_init_43 rfl 2 rfl ?_
  refine g_strlen (pc1 := 49) rfl d_Tokens_init_44 d_Tokens_init_46 rfl (Nat.le_of_ble_eq_true rfl) ⟨Nat.le_of_ble_eq_true rfl, Nat.le_of_ble_eq_true rfl⟩ ?_
  refine g_icmp_ge (pc1 := 52) (tgt := 102) d_Tokens_init_49 (by decide) rfl (fun h => absurd h (by decide)) (fun _ => ?_)
  refine g_strchr (pc1 := 58) (v := 32) rfl d_Tokens_init_52 d_Tokens_init_54 d_Tokens_init_55 rfl 2 rfl (by decide) (by decide) (by decide +kernel) (Nat.le_of_ble_eq_true rfl) ⟨Nat.le_of_ble_eq_true rfl, Nat.le_of_ble_eq_true rfl⟩ ?_
  refine g_istore_n (pc1 := 59) (lv' := [(0, .ref 4), (1, .int 16), (2, .int 85), (3, .int 32)]) d_Tokens_init_58 rfl rfl (by decide) [1, 2, 3, 0] rfl ?_
  refine g_iload_n (pc1 := 60) d_Tokens_init_59 rfl 3 rfl ?_
  refine g_bipush (pc1 := 62) (v := 32) d_Tokens_init_60 rfl (by decide) ?_
  refine g_icmp_ne (pc1 := 65) (tgt := 71) d_Tokens_init_62 (by decide) rfl (fun h => absurd h (by decide)) (fun _ => ?_)
  refine g_iinc (pc1 := 68) (v := 17) (lv' := [(0, .ref 4), (1, .int 17), (2, .int 85), (3, .int 32)]) d_Tokens_init_65 rfl 1 rfl (by decide) (by decide) [1, 0, 2, 3] rfl ?_
  refine g_goto (tgt := 96) d_Tokens_init_68 (by decide) ?_
  refine g_iinc (pc1 := 99) (v := 86) (lv' := [(0, .ref 4), (1, .int 17), (2, .int 86), (3, .int 32)]) d_Tokens_init_96 rfl 2 rfl (by decide) (by decide) [1, 2, 0, 3] rfl ?_
  refine g_goto (tgt := 43) d_Tokens_init_99 (by decide) ?_
  refine g_iload_n (pc1 := 44) d_Tokens_init_43 rfl 2 rfl ?_
  refine g_strlen (pc1 := 49) rfl d_Tokens_init_44 d_Tokens_init_46 rfl (Nat.le_of_ble_eq_true rfl) ⟨Nat.le_of_ble_eq_true rfl, Nat.le_of_ble_eq_true rfl⟩ ?_
  refine g_icmp_ge (pc1 := 52) (tgt := 102) d_Tokens_init_49 (by decide) rfl (fun h => absurd h (by decide)) (fun _ => ?_)
  refine g_strchr (pc1 := 58) (v := 112) rfl d_Tokens_init_52 d_Tokens_init_54 d_Tokens_init_55 rfl 2 rfl (by decide) (by decide) (by decide +kernel) (Nat.le_of_ble_eq_true rfl) ⟨Nat.le_of_ble_eq_true rfl, Nat.le_of_ble_eq_true rfl⟩ ?_
  refine g_istore_n (pc1 := 59) (lv' := [(0, .ref 4), (1, .int 17), (2, .int 86), (3, .int 112)]) d_Tokens_init_58 rfl rfl (by decide) [1, 2, 3, 0] rfl ?_
  refine g_iload_n (pc1 := 60) d_Tokens_init_59 rfl 3 rfl ?_
  refine g_bipush (pc1 := 62) (v := 32) d_Tokens_init_60 rfl (by decide) ?_
  refine g_icmp_ne (pc1 := 65) (tgt := 71) d_Tokens_init_62 (by decide) rfl (fun _ => ?_) (fun h => absurd h (by decide))
  refine g_iload_n (pc1 := 72) d_Tokens_init_71 rfl 1 rfl ?_
  refine g_aload_n (pc1 := 73) d_Tokens_init_72 rfl 0 rfl ?_
  refine g_getr (pc1 := 76) d_Tokens_init_73 rfl ⟨_, fo_Tokens_9⟩ sh_4 (by decide) q368 ?_
  refine g_alen (pc1 := 77) (v := 21) d_Tokens_init_76 rfl sh_5 (by decide) (by decide) (by decide) (by decide) ?_
  refine g_icmp_ge (pc1 := 80) (tgt := 96) d_Tokens_init_77 (by decide) rfl (fun h => absurd h (by decide)) (fun _ => ?_)
  refine g_aload_n (pc1 := 81) d_Tokens_init_80 rfl 0 rfl ?_
  refine g_getr (pc1 := 84) d_Tokens_init_81 rfl ⟨_, fo_Tokens_9⟩ sh_4 (by decide) q368 ?_
  refine g_iload_n (pc1 := 85) d_Tokens_init_84 rfl 1 rfl ?_
  refine g_aload_n (pc1 := 86) d_Tokens_init_85 rfl 0 rfl ?_
  refine g_getr (pc1 := 89) d_Tokens_init_86 rfl ⟨_, fo_Tokens_9⟩ sh_4 (by decide) q368 ?_
  refine g_iload_n (pc1 := 90) d_Tokens_init_89 rfl 1 rfl ?_
  refine g_lald (pc1 := 91) d_Tokens_init_90 rfl sh_5 (by decide) (vin_lit (x := 17) (by decide)) ?_
  refine Wp.vall (y := 0) (by rw [show (17 : Int32).toNatClampNeg = 17 from by decide]; exact (Z575 17 (by decide))) ?_
  refine g_iload_n (pc1 := 92) d_Tokens_init_91 rfl 3 rfl ?_
  refine g_callS (pc1 := 95) (E' := (0, 0, 9)) (As := [.long 0, .int 112]) (rest := [.int 17, .ref 5]) d_Tokens_init_92 rfl mo_Tokens_37 ms_Tokens_withLetter (by decide) rfl rfl (Nat.le_of_ble_eq_true rfl) ⟨Nat.le_of_ble_eq_true rfl, Nat.le_of_ble_eq_true rfl⟩ rfl ?_
  refine t0_withLetter ?_
  dsimp only [psh]
  refine Wp.vall (y := 16) (by decide +kernel) ?_
  refine g_last (pc1 := 96) d_Tokens_init_95 rfl sh_5 (by decide) (vin_lit (x := 17) (by decide)) ?_
  rw [show ((17 : Int32).toNatClampNeg) = 17 from by decide]
  refine Wp.topL (fun L577 eL577 => ?_)
  have Z578 : ∀ j : Nat, 17 < j → L577 5 j = 0 := fun j hj => (rdL_ne eL577 (fun q => by omega)).trans (Z575 j (by omega))
  have q579 : L577 5 17 = 16 := rdL_eq eL577
  refine g_iinc (pc1 := 99) (v := 87) (lv' := [(0, .ref 4), (1, .int 17), (2, .int 87), (3, .int 112)]) d_Tokens_init_96 rfl 2 rfl (by decide) (by decide) [1, 2, 0, 3] rfl ?_
  refine g_goto (tgt := 43) d_Tokens_init_99 (by decide) ?_
  refine g_iload_n (pc1 := 44) d_Tokens_init_43 rfl 2 rfl ?_
  refine g_strlen (pc1 := 49) rfl d_Tokens_init_44 d_Tokens_init_46 rfl (Nat.le_of_ble_eq_true rfl) ⟨Nat.le_of_ble_eq_true rfl, Nat.le_of_ble_eq_true rfl⟩ ?_
  refine g_icmp_ge (pc1 := 52) (tgt := 102) d_Tokens_init_49 (by decide) rfl (fun h => absurd h (by decide)) (fun _ => ?_)
  refine g_strchr (pc1 := 58) (v := 97) rfl d_Tokens_init_52 d_Tokens_init_54 d_Tokens_init_55 rfl 2 rfl (by decide) (by decide) (by decide +kernel) (Nat.le_of_ble_eq_true rfl) ⟨Nat.le_of_ble_eq_true rfl, Nat.le_of_ble_eq_true rfl⟩ ?_
  refine g_istore_n (pc1 := 59) (lv' := [(0, .ref 4), (1, .int 17), (2, .int 87), (3, .int 97)]) d_Tokens_init_58 rfl rfl (by decide) [1, 2, 3, 0] rfl ?_
  refine g_iload_n (pc1 := 60) d_Tokens_init_59 rfl 3 rfl ?_
  refine g_bipush (pc1 := 62) (v := 32) d_Tokens_init_60 rfl (by decide) ?_
  refine g_icmp_ne (pc1 := 65) (tgt := 71) d_Tokens_init_62 (by decide) rfl (fun _ => ?_) (fun h => absurd h (by decide))
  refine g_iload_n (pc1 := 72) d_Tokens_init_71 rfl 1 rfl ?_
  refine g_aload_n (pc1 := 73) d_Tokens_init_72 rfl 0 rfl ?_
  refine g_getr (pc1 := 76) d_Tokens_init_73 rfl ⟨_, fo_Tokens_9⟩ sh_4 (by decide) q368 ?_
  refine g_alen (pc1 := 77) (v := 21) d_Tokens_init_76 rfl sh_5 (by decide) (by decide) (by decide) (by decide) ?_
  refine g_icmp_ge (pc1 := 80) (tgt := 96) d_Tokens_init_77 (by decide) rfl (fun h => absurd h (by decide)) (fun _ => ?_)
  refine g_aload_n (pc1 := 81) d_Tokens_init_80 rfl 0 rfl ?_
  refine g_getr (pc1 := 84) d_Tokens_init_81 rfl ⟨_, fo_Tokens_9⟩ sh_4 (by decide) q368 ?_
  refine g_iload_n (pc1 := 85) d_Tokens_init_84 rfl 1 rfl ?_
  refine g_aload_n (pc1 := 86) d_Tokens_init_85 rfl 0 rfl ?_
  refine g_getr (pc1 := 89) d_Tokens_init_86 rfl ⟨_, fo_Tokens_9⟩ sh_4 (by decide) q368 ?_
  refine g_iload_n (pc1 := 90) d_Tokens_init_89 rfl 1 rfl ?_
  refine g_lald (pc1 := 91) d_Tokens_init_90 rfl sh_5 (by decide) (vin_lit (x := 17) (by decide)) ?_
  refine Wp.vall (y := 16) (by rw [show (17 : Int32).toNatClampNeg = 17 from by decide]; exact q579) ?_
  refine g_iload_n (pc1 := 92) d_Tokens_init_91 rfl 3 rfl ?_
  refine g_callS (pc1 := 95) (E' := (0, 0, 9)) (As := [.long 16, .int 97]) (rest := [.int 17, .ref 5]) d_Tokens_init_92 rfl mo_Tokens_37 ms_Tokens_withLetter (by decide) rfl rfl (Nat.le_of_ble_eq_true rfl) ⟨Nat.le_of_ble_eq_true rfl, Nat.le_of_ble_eq_true rfl⟩ rfl ?_
  refine t0_withLetter ?_
  dsimp only [psh]
  refine Wp.vall (y := 513) (by decide +kernel) ?_
  refine g_last (pc1 := 96) d_Tokens_init_95 rfl sh_5 (by decide) (vin_lit (x := 17) (by decide)) ?_
  rw [show ((17 : Int32).toNatClampNeg) = 17 from by decide]
  refine Wp.topL (fun L580 eL580 => ?_)
  have Z581 : ∀ j : Nat, 17 < j → L580 5 j = 0 := fun j hj => (rdL_ne eL580 (fun q => by omega)).trans (Z578 j (by omega))
  have q582 : L580 5 17 = 513 := rdL_eq eL580
  refine g_iinc (pc1 := 99) (v := 88) (lv' := [(0, .ref 4), (1, .int 17), (2, .int 88), (3, .int 97)]) d_Tokens_init_96 rfl 2 rfl (by decide) (by decide) [1, 2, 0, 3] rfl ?_
  refine g_goto (tgt := 43) d_Tokens_init_99 (by decide) ?_
  refine g_iload_n (pc1 := 44) d_Tokens_init_43 rfl 2 rfl ?_
  refine g_strlen (pc1 := 49) rfl d_Tokens_init_44 d_Tokens_init_46 rfl (Nat.le_of_ble_eq_true rfl) ⟨Nat.le_of_ble_eq_true rfl, Nat.le_of_ble_eq_true rfl⟩ ?_
  refine g_icmp_ge (pc1 := 52) (tgt := 102) d_Tokens_init_49 (by decide) rfl (fun h => absurd h (by decide)) (fun _ => ?_)
  refine g_strchr (pc1 := 58) (v := 108) rfl d_Tokens_init_52 d_Tokens_init_54 d_Tokens_init_55 rfl 2 rfl (by decide) (by decide) (by decide +kernel) (Nat.le_of_ble_eq_true rfl) ⟨Nat.le_of_ble_eq_true rfl, Nat.le_of_ble_eq_true rfl⟩ ?_
  refine g_istore_n (pc1 := 59) (lv' := [(0, .ref 4), (1, .int 17), (2, .int 88), (3, .int 108)]) d_Tokens_init_58 rfl rfl (by decide) [1, 2, 3, 0] rfl ?_
  refine g_iload_n (pc1 := 60) d_Tokens_init_59 rfl 3 rfl ?_
  refine g_bipush (pc1 := 62) (v := 32) d_Tokens_init_60 rfl (by decide) ?_
  refine g_icmp_ne (pc1 := 65) (tgt := 71) d_Tokens_init_62 (by decide) rfl (fun _ => ?_) (fun h => absurd h (by decide))
  refine g_iload_n (pc1 := 72) d_Tokens_init_71 rfl 1 rfl ?_
  refine g_aload_n (pc1 := 73) d_Tokens_init_72 rfl 0 rfl ?_
  refine g_getr (pc1 := 76) d_Tokens_init_73 rfl ⟨_, fo_Tokens_9⟩ sh_4 (by decide) q368 ?_
  refine g_alen (pc1 := 77) (v := 21) d_Tokens_init_76 rfl sh_5 (by decide) (by decide) (by decide) (by decide) ?_
  refine g_icmp_ge (pc1 := 80) (tgt := 96) d_Tokens_init_77 (by decide) rfl (fun h => absurd h (by decide)) (fun _ => ?_)
  refine g_aload_n (pc1 := 81) d_Tokens_init_80 rfl 0 rfl ?_
  refine g_getr (pc1 := 84) d_Tokens_init_81 rfl ⟨_, fo_Tokens_9⟩ sh_4 (by decide) q368 ?_
  refine g_iload_n (pc1 := 85) d_Tokens_init_84 rfl 1 rfl ?_
  refine g_aload_n (pc1 := 86) d_Tokens_init_85 rfl 0 rfl ?_
  refine g_getr (pc1 := 89) d_Tokens_init_86 rfl ⟨_, fo_Tokens_9⟩ sh_4 (by decide) q368 ?_
  refine g_iload_n (pc1 := 90) d_Tokens_init_89 rfl 1 rfl ?_
  refine g_lald (pc1 := 91) d_Tokens_init_90 rfl sh_5 (by decide) (vin_lit (x := 17) (by decide)) ?_
  refine Wp.vall (y := 513) (by rw [show (17 : Int32).toNatClampNeg = 17 from by decide]; exact q582) ?_
  refine g_iload_n (pc1 := 92) d_Tokens_init_91 rfl 3 rfl ?_
  refine g_callS (pc1 := 95) (E' := (0, 0, 9)) (As := [.long 513, .int 108]) (rest := [.int 17, .ref 5]) d_Tokens_init_92 rfl mo_Tokens_37 ms_Tokens_withLetter (by decide) rfl rfl (Nat.le_of_ble_eq_true rfl) ⟨Nat.le_of_ble_eq_true rfl, Nat.le_of_ble_eq_true rfl⟩ rfl ?_
  refine t0_withLetter ?_
  dsimp only [psh]
  refine Wp.vall (y := 16428) (by decide +kernel) ?_
  refine g_last (pc1 := 96) d_Tokens_init_95 rfl sh_5 (by decide) (vin_lit (x := 17) (by decide)) ?_
  rw [show ((17 : Int32).toNatClampNeg) = 17 from by decide]
  refine Wp.topL (fun L583 eL583 => ?_)
  have Z584 : ∀ j : Nat, 17 < j → L583 5 j = 0 := fun j hj => (rdL_ne eL583 (fun q => by omega)).trans (Z581 j (by omega))
  have q585 : L583 5 17 = 16428 := rdL_eq eL583
  refine g_iinc (pc1 := 99) (v := 89) (lv' := [(0, .ref 4), (1, .int 17), (2, .int 89), (3, .int 108)]) d_Tokens_init_96 rfl 2 rfl (by decide) (by decide) [1, 2, 0, 3] rfl ?_
  refine g_goto (tgt := 43) d_Tokens_init_99 (by decide) ?_
  refine g_iload_n (pc1 := 44) d_Tokens_init_43 rfl 2 rfl ?_
  refine g_strlen (pc1 := 49) rfl d_Tokens_init_44 d_Tokens_init_46 rfl (Nat.le_of_ble_eq_true rfl) ⟨Nat.le_of_ble_eq_true rfl, Nat.le_of_ble_eq_true rfl⟩ ?_
  refine g_icmp_ge (pc1 := 52) (tgt := 102) d_Tokens_init_49 (by decide) rfl (fun h => absurd h (by decide)) (fun _ => ?_)
  refine g_strchr (pc1 := 58) (v := 97) rfl d_Tokens_init_52 d_Tokens_init_54 d_Tokens_init_55 rfl 2 rfl (by decide) (by decide) (by decide +kernel) (Nat.le_of_ble_eq_true rfl) ⟨Nat.le_of_ble_eq_true rfl, Nat.le_of_ble_eq_true rfl⟩ ?_
  refine g_istore_n (pc1 := 59) (lv' := [(0, .ref 4), (1, .int 17), (2, .int 89), (3, .int 97)]) d_Tokens_init_58 rfl rfl (by decide) [1, 2, 3, 0] rfl ?_
  refine g_iload_n (pc1 := 60) d_Tokens_init_59 rfl 3 rfl ?_
  refine g_bipush (pc1 := 62) (v := 32) d_Tokens_init_60 rfl (by decide) ?_
  refine g_icmp_ne (pc1 := 65) (tgt := 71) d_Tokens_init_62 (by decide) rfl (fun _ => ?_) (fun h => absurd h (by decide))
  refine g_iload_n (pc1 := 72) d_Tokens_init_71 rfl 1 rfl ?_
  refine g_aload_n (pc1 := 73) d_Tokens_init_72 rfl 0 rfl ?_
  refine g_getr (pc1 := 76) d_Tokens_init_73 rfl ⟨_, fo_Tokens_9⟩ sh_4 (by decide) q368 ?_
  refine g_alen (pc1 := 77) (v := 21) d_Tokens_init_76 rfl sh_5 (by decide) (by decide) (by decide) (by decide) ?_
  refine g_icmp_ge (pc1 := 80) (tgt := 96) d_Tokens_init_77 (by decide) rfl (fun h => absurd h (by decide)) (fun _ => ?_)
  refine g_aload_n (pc1 := 81) d_Tokens_init_80 rfl 0 rfl ?_
  refine g_getr (pc1 := 84) d_Tokens_init_81 rfl ⟨_, fo_Tokens_9⟩ sh_4 (by decide) q368 ?_
  refine g_iload_n (pc1 := 85) d_Tokens_init_84 rfl 1 rfl ?_
  refine g_aload_n (pc1 := 86) d_Tokens_init_85 rfl 0 rfl ?_
  refine g_getr (pc1 := 89) d_Tokens_init_86 rfl ⟨_, fo_Tokens_9⟩ sh_4 (by decide) q368 ?_
  refine g_iload_n (pc1 := 90) d_Tokens_init_89 rfl 1 rfl ?_
  refine g_lald (pc1 := 91) d_Tokens_init_90 rfl sh_5 (by decide) (vin_lit (x := 17) (by decide)) ?_
  refine Wp.vall (y := 16428) (by rw [show (17 : Int32).toNatClampNeg = 17 from by decide]; exact q585) ?_
  refine g_iload_n (pc1 := 92) d_Tokens_init_91 rfl 3 rfl ?_
  refine g_callS (pc1 := 95) (E' := (0, 0, 9)) (As := [.long 16428, .int 97]) (rest := [.int 17, .ref 5]) d_Tokens_init_92 rfl mo_Tokens_37 ms_Tokens_withLetter (by decide) rfl rfl (Nat.le_of_ble_eq_true rfl) ⟨Nat.le_of_ble_eq_true rfl, Nat.le_of_ble_eq_true rfl⟩ rfl ?_
  refine t0_withLetter ?_
  dsimp only [psh]
  refine Wp.vall (y := 525697) (by decide +kernel) ?_
  refine g_last (pc1 := 96) d_Tokens_init_95 rfl sh_5 (by decide) (vin_lit (x := 17) (by decide)) ?_
  rw [show ((17 : Int32).toNatClampNeg) = 17 from by decide]
  refine Wp.topL (fun L586 eL586 => ?_)
  have Z587 : ∀ j : Nat, 17 < j → L586 5 j = 0 := fun j hj => (rdL_ne eL586 (fun q => by omega)).trans (Z584 j (by omega))
  have q588 : L586 5 17 = 525697 := rdL_eq eL586
  refine g_iinc (pc1 := 99) (v := 90) (lv' := [(0, .ref 4), (1, .int 17), (2, .int 90), (3, .int 97)]) d_Tokens_init_96 rfl 2 rfl (by decide) (by decide) [1, 2, 0, 3] rfl ?_
  refine g_goto (tgt := 43) d_Tokens_init_99 (by decide) ?_
  refine g_iload_n (pc1 := 44) d_Tokens_init_43 rfl 2 rfl ?_
  refine g_strlen (pc1 := 49) rfl d_Tokens_init_44 d_Tokens_init_46 rfl (Nat.le_of_ble_eq_true rfl) ⟨Nat.le_of_ble_eq_true rfl, Nat.le_of_ble_eq_true rfl⟩ ?_
  refine g_icmp_ge (pc1 := 52) (tgt := 102) d_Tokens_init_49 (by decide) rfl (fun h => absurd h (by decide)) (fun _ => ?_)
  refine g_strchr (pc1 := 58) (v := 116) rfl d_Tokens_init_52 d_Tokens_init_54 d_Tokens_init_55 rfl 2 rfl (by decide) (by decide) (by decide +kernel) (Nat.le_of_ble_eq_true rfl) ⟨Nat.le_of_ble_eq_true rfl, Nat.le_of_ble_eq_true rfl⟩ ?_
  refine g_istore_n (pc1 := 59) (lv' := [(0, .ref 4), (1, .int 17), (2, .int 90), (3, .int 116)]) d_Tokens_init_58 rfl rfl (by decide) [1, 2, 3, 0] rfl ?_
  refine g_iload_n (pc1 := 60) d_Tokens_init_59 rfl 3 rfl ?_
  refine g_bipush (pc1 := 62) (v := 32) d_Tokens_init_60 rfl (by decide) ?_
  refine g_icmp_ne (pc1 := 65) (tgt := 71) d_Tokens_init_62 (by decide) rfl (fun _ => ?_) (fun h => absurd h (by decide))
  refine g_iload_n (pc1 := 72) d_Tokens_init_71 rfl 1 rfl ?_
  refine g_aload_n (pc1 := 73) d_Tokens_init_72 rfl 0 rfl ?_
  refine g_getr (pc1 := 76) d_Tokens_init_73 rfl ⟨_, fo_Tokens_9⟩ sh_4 (by decide) q368 ?_
  refine g_alen (pc1 := 77) (v := 21) d_Tokens_init_76 rfl sh_5 (by decide) (by decide) (by decide) (by decide) ?_
  refine g_icmp_ge (pc1 := 80) (tgt := 96) d_Tokens_init_77 (by decide) rfl (fun h => absurd h (by decide)) (fun _ => ?_)
  refine g_aload_n (pc1 := 81) d_Tokens_init_80 rfl 0 rfl ?_
  refine g_getr (pc1 := 84) d_Tokens_init_81 rfl ⟨_, fo_Tokens_9⟩ sh_4 (by decide) q368 ?_
  refine g_iload_n (pc1 := 85) d_Tokens_init_84 rfl 1 rfl ?_
  refine g_aload_n (pc1 := 86) d_Tokens_init_85 rfl 0 rfl ?_
  refine g_getr (pc1 := 89) d_Tokens_init_86 rfl ⟨_, fo_Tokens_9⟩ sh_4 (by decide) q368 ?_
  refine g_iload_n (pc1 := 90) d_Tokens_init_89 rfl 1 rfl ?_
  refine g_lald (pc1 := 91) d_Tokens_init_90 rfl sh_5 (by decide) (vin_lit (x := 17) (by decide)) ?_
  refine Wp.vall (y := 525697) (by rw [show (17 : Int32).toNatClampNeg = 17 from by decide]; exact q588) ?_
  refine g_iload_n (pc1 := 92) d_Tokens_init_91 rfl 3 rfl ?_
  refine g_callS (pc1 := 95) (E' := (0, 0, 9)) (As := [.long 525697, .int 116]) (rest := [.int 17, .ref 5]) d_Tokens_init_92 rfl mo_Tokens_37 ms_Tokens_withLetter (by decide) rfl rfl (Nat.le_of_ble_eq_true rfl) ⟨Nat.le_of_ble_eq_true rfl, Nat.le_of_ble_eq_true rfl⟩ rfl ?_
  refine t0_withLetter ?_
  dsimp only [psh]
  refine Wp.vall (y := 16822324) (by decide +kernel) ?_
  refine g_last (pc1 := 96) d_Tokens_init_95 rfl sh_5 (by decide) (vin_lit (x := 17) (by decide)) ?_
  rw [show ((17 : Int32).toNatClampNeg) = 17 from by decide]
  refine Wp.topL (fun L589 eL589 => ?_)
  have Z590 : ∀ j : Nat, 17 < j → L589 5 j = 0 := fun j hj => (rdL_ne eL589 (fun q => by omega)).trans (Z587 j (by omega))
  have q591 : L589 5 17 = 16822324 := rdL_eq eL589
  refine g_iinc (pc1 := 99) (v := 91) (lv' := [(0, .ref 4), (1, .int 17), (2, .int 91), (3, .int 116)]) d_Tokens_init_96 rfl 2 rfl (by decide) (by decide) [1, 2, 0, 3] rfl ?_
  refine g_goto (tgt := 43) d_Tokens_init_99 (by decide) ?_
  refine g_iload_n (pc1 := 44) d_Tokens_init_43 rfl 2 rfl ?_
  refine g_strlen (pc1 := 49) rfl d_Tokens_init_44 d_Tokens_init_46 rfl (Nat.le_of_ble_eq_true rfl) ⟨Nat.le_of_ble_eq_true rfl, Nat.le_of_ble_eq_true rfl⟩ ?_
  refine g_icmp_ge (pc1 := 52) (tgt := 102) d_Tokens_init_49 (by decide) rfl (fun h => absurd h (by decide)) (fun _ => ?_)
  refine g_strchr (pc1 := 58) (v := 101) rfl d_Tokens_init_52 d_Tokens_init_54 d_Tokens_init_55 rfl 2 rfl (by decide) (by decide) (by decide +kernel) (Nat.le_of_ble_eq_true rfl) ⟨Nat.le_of_ble_eq_true rfl, Nat.le_of_ble_eq_true rfl⟩ ?_
  refine g_istore_n (pc1 := 59) (lv' := [(0, .ref 4), (1, .int 17), (2, .int 91), (3, .int 101)]) d_Tokens_init_58 rfl rfl (by decide) [1, 2, 3, 0] rfl ?_
  refine g_iload_n (pc1 := 60) d_Tokens_init_59 rfl 3 rfl ?_
  refine g_bipush (pc1 := 62) (v := 32) d_Tokens_init_60 rfl (by decide) ?_
  refine g_icmp_ne (pc1 := 65) (tgt := 71) d_Tokens_init_62 (by decide) rfl (fun _ => ?_) (fun h => absurd h (by decide))
  refine g_iload_n (pc1 := 72) d_Tokens_init_71 rfl 1 rfl ?_
  refine g_aload_n (pc1 := 73) d_Tokens_init_72 rfl 0 rfl ?_
  refine g_getr (pc1 := 76) d_Tokens_init_73 rfl ⟨_, fo_Tokens_9⟩ sh_4 (by decide) q368 ?_
  refine g_alen (pc1 := 77) (v := 21) d_Tokens_init_76 rfl sh_5 (by decide) (by decide) (by decide) (by decide) ?_
  refine g_icmp_ge (pc1 := 80) (tgt := 96) d_Tokens_init_77 (by decide) rfl (fun h => absurd h (by decide)) (fun _ => ?_)
  refine g_aload_n (pc1 := 81) d_Tokens_init_80 rfl 0 rfl ?_
  refine g_getr (pc1 := 84) d_Tokens_init_81 rfl ⟨_, fo_Tokens_9⟩ sh_4 (by decide) q368 ?_
  refine g_iload_n (pc1 := 85) d_Tokens_init_84 rfl 1 rfl ?_
  refine g_aload_n (pc1 := 86) d_Tokens_init_85 rfl 0 rfl ?_
  refine g_getr (pc1 := 89) d_Tokens_init_86 rfl ⟨_, fo_Tokens_9⟩ sh_4 (by decide) q368 ?_
  refine g_iload_n (pc1 := 90) d_Tokens_init_89 rfl 1 rfl ?_
  refine g_lald (pc1 := 91) d_Tokens_init_90 rfl sh_5 (by decide) (vin_lit (x := 17) (by decide)) ?_
  refine Wp.vall (y := 16822324) (by rw [show (17 : Int32).toNatClampNeg = 17 from by decide]; exact q591) ?_
  refine g_iload_n (pc1 := 92) d_Tokens_init_91 rfl 3 rfl ?_
  refine g_callS (pc1 := 95) (E' := (0, 0, 9)) (As := [.long 16822324, .int 101]) (rest := [.int 17, .ref 5]) d_Tokens_init_92 rfl mo_Tokens_37 ms_Tokens_withLetter (by decide) rfl rfl (Nat.le_of_ble_eq_true rfl) ⟨Nat.le_of_ble_eq_true rfl, Nat.le_of_ble_eq_true rfl⟩ rfl ?_
  refine t0_withLetter ?_
  dsimp only [psh]
  refine Wp.vall (y := 538314373) (by decide +kernel) ?_
  refine g_last (pc1 := 96) d_Tokens_init_95 rfl sh_5 (by decide) (vin_lit (x := 17) (by decide)) ?_
  rw [show ((17 : Int32).toNatClampNeg) = 17 from by decide]
  refine Wp.topL (fun L592 eL592 => ?_)
  have Z593 : ∀ j : Nat, 17 < j → L592 5 j = 0 := fun j hj => (rdL_ne eL592 (fun q => by omega)).trans (Z590 j (by omega))
  have q594 : L592 5 17 = 538314373 := rdL_eq eL592
  refine g_iinc (pc1 := 99) (v := 92) (lv' := [(0, .ref 4), (1, .int 17), (2, .int 92), (3, .int 101)]) d_Tokens_init_96 rfl 2 rfl (by decide) (by decide) [1, 2, 0, 3] rfl ?_
  refine g_goto (tgt := 43) d_Tokens_init_99 (by decide) ?_
  refine g_iload_n (pc1 := 44) d_Tokens_init_43 rfl 2 rfl ?_
  refine g_strlen (pc1 := 49) rfl d_Tokens_init_44 d_Tokens_init_46 rfl (Nat.le_of_ble_eq_true rfl) ⟨Nat.le_of_ble_eq_true rfl, Nat.le_of_ble_eq_true rfl⟩ ?_
  refine g_icmp_ge (pc1 := 52) (tgt := 102) d_Tokens_init_49 (by decide) rfl (fun h => absurd h (by decide)) (fun _ => ?_)
  refine g_strchr (pc1 := 58) (v := 32) rfl d_Tokens_init_52 d_Tokens_init_54 d_Tokens_init_55 rfl 2 rfl (by decide) (by decide) (by decide +kernel) (Nat.le_of_ble_eq_true rfl) ⟨Nat.le_of_ble_eq_true rfl, Nat.le_of_ble_eq_true rfl⟩ ?_
  refine g_istore_n (pc1 := 59) (lv' := [(0, .ref 4), (1, .int 17), (2, .int 92), (3, .int 32)]) d_Tokens_init_58 rfl rfl (by decide) [1, 2, 3, 0] rfl ?_
  refine g_iload_n (pc1 := 60) d_Tokens_init_59 rfl 3 rfl ?_
  refine g_bipush (pc1 := 62) (v := 32) d_Tokens_init_60 rfl (by decide) ?_
  refine g_icmp_ne (pc1 := 65) (tgt := 71) d_Tokens_init_62 (by decide) rfl (fun h => absurd h (by decide)) (fun _ => ?_)
  refine g_iinc (pc1 := 68) (v := 18) (lv' := [(0, .ref 4), (1, .int 18), (2, .int 92), (3, .int 32)]) d_Tokens_init_65 rfl 1 rfl (by decide) (by decide) [1, 0, 2, 3] rfl ?_
  refine g_goto (tgt := 96) d_Tokens_init_68 (by decide) ?_
  refine g_iinc (pc1 := 99) (v := 93) (lv' := [(0, .ref 4), (1, .int 18), (2, .int 93), (3, .int 32)]) d_Tokens_init_96 rfl 2 rfl (by decide) (by decide) [1, 2, 0, 3] rfl ?_
  refine g_goto (tgt := 43) d_Tokens_init_99 (by decide) ?_
  refine g_iload_n (pc1 := 44) d_Tokens_init_43 rfl 2 rfl ?_
  refine g_strlen (pc1 := 49) rfl d_Tokens_init_44 d_Tokens_init_46 rfl (Nat.le_of_ble_eq_true rfl) ⟨Nat.le_of_ble_eq_true rfl, Nat.le_of_ble_eq_true rfl⟩ ?_
  refine g_icmp_ge (pc1 := 52) (tgt := 102) d_Tokens_init_49 (by decide) rfl (fun h => absurd h (by decide)) (fun _ => ?_)
  refine g_strchr (pc1 := 58) (v := 97) rfl d_Tokens_init_52 d_Tokens_init_54 d_Tokens_init_55 rfl 2 rfl (by decide) (by decide) (by decide +kernel) (Nat.le_of_ble_eq_true rfl) ⟨Nat.le_of_ble_eq_true rfl, Nat.le_of_ble_eq_true rfl⟩ ?_
  refine g_istore_n (pc1 := 59) (lv' := [(0, .ref 4), (1, .int 18), (2, .int 93), (3, .int 97)]) d_Tokens_init_58 rfl rfl (by decide) [1, 2, 3, 0] rfl ?_
  refine g_iload_n (pc1 := 60) d_Tokens_init_59 rfl 3 rfl ?_
  refine g_bipush (pc1 := 62) (v := 32) d_Tokens_init_60 rfl (by decide) ?_
  refine g_icmp_ne (pc1 := 65) (tgt := 71) d_Tokens_init_62 (by decide) rfl (fun _ => ?_) (fun h => absurd h (by decide))
  refine g_iload_n (pc1 := 72) d_Tokens_init_71 rfl 1 rfl ?_
  refine g_aload_n (pc1 := 73) d_Tokens_init_72 rfl 0 rfl ?_
  refine g_getr (pc1 := 76) d_Tokens_init_73 rfl ⟨_, fo_Tokens_9⟩ sh_4 (by decide) q368 ?_
  refine g_alen (pc1 := 77) (v := 21) d_Tokens_init_76 rfl sh_5 (by decide) (by decide) (by decide) (by decide) ?_
  refine g_icmp_ge (pc1 := 80) (tgt := 96) d_Tokens_init_77 (by decide) rfl (fun h => absurd h (by decide)) (fun _ => ?_)
  refine g_aload_n (pc1 := 81) d_Tokens_init_80 rfl 0 rfl ?_
  refine g_getr (pc1 := 84) d_Tokens_init_81 rfl ⟨_, fo_Tokens_9⟩ sh_4 (by decide) q368 ?_
  refine g_iload_n (pc1 := 85) d_Tokens_init_84 rfl 1 rfl ?_
  refine g_aload_n (pc1 := 86) d_Tokens_init_85 rfl 0 rfl ?_
  refine g_getr (pc1 := 89) d_Tokens_init_86 rfl ⟨_, fo_Tokens_9⟩ sh_4 (by decide) q368 ?_
  refine g_iload_n (pc1 := 90) d_Tokens_init_89 rfl 1 rfl ?_
  refine g_lald (pc1 := 91) d_Tokens_init_90 rfl sh_5 (by decide) (vin_lit (x := 18) (by decide)) ?_
  refine Wp.vall (y := 0) (by rw [show (18 : Int32).toNatClampNeg = 18 from by decide]; exact (Z593 18 (by decide))) ?_
  refine g_iload_n (pc1 := 92) d_Tokens_init_91 rfl 3 rfl ?_
  refine g_callS (pc1 := 95) (E' := (0, 0, 9)) (As := [.long 0, .int 97]) (rest := [.int 18, .ref 5]) d_Tokens_init_92 rfl mo_Tokens_37 ms_Tokens_withLetter (by decide) rfl rfl (Nat.le_of_ble_eq_true rfl) ⟨Nat.le_of_ble_eq_true rfl, Nat.le_of_ble_eq_true rfl⟩ rfl ?_
  refine t0_withLetter ?_
  dsimp only [psh]
  refine Wp.vall (y := 1) (by decide +kernel) ?_
  refine g_last (pc1 := 96) d_Tokens_init_95 rfl sh_5 (by decide) (vin_lit (x := 18) (by decide)) ?_
  rw [show ((18 : Int32).toNatClampNeg) = 18 from by decide]
  refine Wp.topL (fun L595 eL595 => ?_)
  have Z596 : ∀ j : Nat, 18 < j → L595 5 j = 0 := fun j hj => (rdL_ne eL595 (fun q => by omega)).trans (Z593 j (by omega))
  have q597 : L595 5 18 = 1 := rdL_eq eL595
  refine g_iinc (pc1 := 99) (v := 94) (lv' := [(0, .ref 4), (1, .int 18), (2, .int 94), (3, .int 97)]) d_Tokens_init_96 rfl 2 rfl (by decide) (by decide) [1, 2, 0, 3] rfl ?_
  refine g_goto (tgt := 43) d_Tokens_init_99 (by decide) ?_
  refine g_iload_n (pc1 := 44) d_Tokens_init_43 rfl 2 rfl ?_
  refine g_strlen (pc1 := 49) rfl d_Tokens_init_44 d_Tokens_init_46 rfl (Nat.le_of_ble_eq_true rfl) ⟨Nat.le_of_ble_eq_true rfl, Nat.le_of_ble_eq_true rfl⟩ ?_
  refine g_icmp_ge (pc1 := 52) (tgt := 102) d_Tokens_init_49 (by decide) rfl (fun h => absurd h (by decide)) (fun _ => ?_)
  refine g_strchr (pc1 := 58) (v := 103) rfl d_Tokens_init_52 d_Tokens_init_54 d_Tokens_init_55 rfl 2 rfl (by decide) (by decide) (by decide +kernel) (Nat.le_of_ble_eq_true rfl) ⟨Nat.le_of_ble_eq_true rfl, Nat.le_of_ble_eq_true rfl⟩ ?_
  refine g_istore_n (pc1 := 59) (lv' := [(0, .ref 4), (1, .int 18), (2, .int 94), (3, .int 103)]) d_Tokens_init_58 rfl rfl (by decide) [1, 2, 3, 0] rfl ?_
  refine g_iload_n (pc1 := 60) d_Tokens_init_59 rfl 3 rfl ?_
  refine g_bipush (pc1 := 62) (v := 32) d_Tokens_init_60 rfl (by decide) ?_
  refine g_icmp_ne (pc1 := 65) (tgt := 71) d_Tokens_init_62 (by decide) rfl (fun _ => ?_) (fun h => absurd h (by decide))
  refine g_iload_n (pc1 := 72) d_Tokens_init_71 rfl 1 rfl ?_
  refine g_aload_n (pc1 := 73) d_Tokens_init_72 rfl 0 rfl ?_
  refine g_getr (pc1 := 76) d_Tokens_init_73 rfl ⟨_, fo_Tokens_9⟩ sh_4 (by decide) q368 ?_
  refine g_alen (pc1 := 77) (v := 21) d_Tokens_init_76 rfl sh_5 (by decide) (by decide) (by decide) (by decide) ?_
  refine g_icmp_ge (pc1 := 80) (tgt := 96) d_Tokens_init_77 (by decide) rfl (fun h => absurd h (by decide)) (fun _ => ?_)
  refine g_aload_n (pc1 := 81) d_Tokens_init_80 rfl 0 rfl ?_
  refine g_getr (pc1 := 84) d_Tokens_init_81 rfl ⟨_, fo_Tokens_9⟩ sh_4 (by decide) q368 ?_
  refine g_iload_n (pc1 := 85) d_Tokens_init_84 rfl 1 rfl ?_
  refine g_aload_n (pc1 := 86) d_Tokens_init_85 rfl 0 rfl ?_
  refine g_getr (pc1 := 89) d_Tokens_init_86 rfl ⟨_, fo_Tokens_9⟩ sh_4 (by decide) q368 ?_
  refine g_iload_n (pc1 := 90) d_Tokens_init_89 rfl 1 rfl ?_
  refine g_lald (pc1 := 91) d_Tokens_init_90 rfl sh_5 (by decide) (vin_lit (x := 18) (by decide)) ?_
  refine Wp.vall (y := 1) (by rw [show (18 : Int32).toNatClampNeg = 18 from by decide]; exact q597) ?_
  refine g_iload_n (pc1 := 92) d_Tokens_init_91 rfl 3 rfl ?_
  refine g_callS (pc1 := 95) (E' := (0, 0, 9)) (As := [.long 1, .int 103]) (rest := [.int 18, .ref 5]) d_Tokens_init_92 rfl mo_Tokens_37 ms_Tokens_withLetter (by decide) rfl rfl (Nat.le_of_ble_eq_true rfl) ⟨Nat.le_of_ble_eq_true rfl, Nat.le_of_ble_eq_true rfl⟩ rfl ?_
  refine t0_withLetter ?_
  dsimp only [psh]
  refine Wp.vall (y := 39) (by decide +kernel) ?_
  refine g_last (pc1 := 96) d_Tokens_init_95 rfl sh_5 (by decide) (vin_lit (x := 18) (by decide)) ?_
  rw [show ((18 : Int32).toNatClampNeg) = 18 from by decide]
  refine Wp.topL (fun L598 eL598 => ?_)
  have Z599 : ∀ j : Nat, 18 < j → L598 5 j = 0 := fun j hj => (rdL_ne eL598 (fun q => by omega)).trans (Z596 j (by omega))
  have q600 : L598 5 18 = 39 := rdL_eq eL598
  refine g_iinc (pc1 := 99) (v := 95) (lv' := [(0, .ref 4), (1, .int 18), (2, .int 95), (3, .int 103)]) d_Tokens_init_96 rfl 2 rfl (by decide) (by decide) [1, 2, 0, 3] rfl ?_
  refine g_goto (tgt := 43) d_Tokens_init_99 (by decide) ?_
  refine g_iload_n (pc1 := 44) d_Tokens_init_43 rfl 2 rfl ?_
  refine g_strlen (pc1 := 49) rfl d_Tokens_init_44 d_Tokens_init_46 rfl (Nat.le_of_ble_eq_true rfl) ⟨Nat.le_of_ble_eq_true rfl, Nat.le_of_ble_eq_true rfl⟩ ?_
  refine g_icmp_ge (pc1 := 52) (tgt := 102) d_Tokens_init_49 (by decide) rfl (fun h => absurd h (by decide)) (fun _ => ?_)
  refine g_strchr (pc1 := 58) (v := 111) rfl d_Tokens_init_52 d_Tokens_init_54 d_Tokens_init_55 rfl 2 rfl (by decide) (by decide) (by decide +kernel) (Nat.le_of_ble_eq_true rfl) ⟨Nat.le_of_ble_eq_true rfl, Nat.le_of_ble_eq_true rfl⟩ ?_
  refine g_istore_n (pc1 := 59) (lv' := [(0, .ref 4), (1, .int 18), (2, .int 95), (3, .int 111)]) d_Tokens_init_58 rfl rfl (by decide) [1, 2, 3, 0] rfl ?_
  refine g_iload_n (pc1 := 60) d_Tokens_init_59 rfl 3 rfl ?_
  refine g_bipush (pc1 := 62) (v := 32) d_Tokens_init_60 rfl (by decide) ?_
  refine g_icmp_ne (pc1 := 65) (tgt := 71) d_Tokens_init_62 (by decide) rfl (fun _ => ?_) (fun h => absurd h (by decide))
  refine g_iload_n (pc1 := 72) d_Tokens_init_71 rfl 1 rfl ?_
  refine g_aload_n (pc1 := 73) d_Tokens_init_72 rfl 0 rfl ?_
  refine g_getr (pc1 := 76) d_Tokens_init_73 rfl ⟨_, fo_Tokens_9⟩ sh_4 (by decide) q368 ?_
  refine g_alen (pc1 := 77) (v := 21) d_Tokens_init_76 rfl sh_5 (by decide) (by decide) (by decide) (by decide) ?_
  refine g_icmp_ge (pc1 := 80) (tgt := 96) d_Tokens_init_77 (by decide) rfl (fun h => absurd h (by decide)) (fun _ => ?_)
  refine g_aload_n (pc1 := 81) d_Tokens_init_80 rfl 0 rfl ?_
  refine g_getr (pc1 := 84) d_Tokens_init_81 rfl ⟨_, fo_Tokens_9⟩ sh_4 (by decide) q368 ?_
  refine g_iload_n (pc1 := 85) d_Tokens_init_84 rfl 1 rfl ?_
  refine g_aload_n (pc1 := 86) d_Tokens_init_85 rfl 0 rfl ?_
  refine g_getr (pc1 := 89) d_Tokens_init_86 rfl ⟨_, fo_Tokens_9⟩ sh_4 (by decide) q368 ?_
  refine g_iload_n (pc1 := 90) d_Tokens_init_89 rfl 1 rfl ?_
  refine g_lald (pc1 := 91) d_Tokens_init_90 rfl sh_5 (by decide) (vin_lit (x := 18) (by decide)) ?_
  refine Wp.vall (y := 39) (by rw [show (18 : Int32).toNatClampNeg = 18 from by decide]; exact q600) ?_
  refine g_iload_n (pc1 := 92) d_Tokens_init_91 rfl 3 rfl ?_
  refine g_callS (pc1 := 95) (E' := (0, 0, 9)) (As := [.long 39, .int 111]) (rest := [.int 18, .ref 5]) d_Tokens_init_92 rfl mo_Tokens_37 ms_Tokens_withLetter (by decide) rfl rfl (Nat.le_of_ble_eq_true rfl) ⟨Nat.le_of_ble_eq_true rfl, Nat.le_of_ble_eq_true rfl⟩ rfl ?_
  refine t0_withLetter ?_
  dsimp only [psh]
  refine Wp.vall (y := 1263) (by decide +kernel) ?_
  refine g_last (pc1 := 96) d_Tokens_init_95 rfl sh_5 (by decide) (vin_lit (x := 18) (by decide)) ?_
  rw [show ((18 : Int32).toNatClampNeg) = 18 from by decide]
  refine Wp.topL (fun L601 eL601 => ?_)
  have Z602 : ∀ j : Nat, 18 < j → L601 5 j = 0 := fun j hj => (rdL_ne eL601 (fun q => by omega)).trans (Z599 j (by omega))
  have q603 : L601 5 18 = 1263 := rdL_eq eL601
  refine g_iinc (pc1 := 99) (v := 96) (lv' := [(0, .ref 4), (1, .int 18), (2, .int 96), (3, .int 111)]) d_Tokens_init_96 rfl 2 rfl (by decide) (by decide) [1, 2, 0, 3] rfl ?_
  refine g_goto (tgt := 43) d_Tokens_init_99 (by decide) ?_
  refine g_iload_n (pc1 := 44) d_Tokens_init_43 rfl 2 rfl ?_
  refine g_strlen (pc1 := 49) rfl d_Tokens_init_44 d_Tokens_init_46 rfl (Nat.le_of_ble_eq_true rfl) ⟨Nat.le_of_ble_eq_true rfl, Nat.le_of_ble_eq_true rfl⟩ ?_
  refine g_icmp_ge (pc1 := 52) (tgt := 102) d_Tokens_init_49 (by decide) rfl (fun h => absurd h (by decide)) (fun _ => ?_)
  refine g_strchr (pc1 := 58) (v := 32) rfl d_Tokens_init_52 d_Tokens_init_54 d_Tokens_init_55 rfl 2 rfl (by decide) (by decide) (by decide +kernel) (Nat.le_of_ble_eq_true rfl) ⟨Nat.le_of_ble_eq_true rfl, Nat.le_of_ble_eq_true rfl⟩ ?_
  refine g_istore_n (pc1 := 59) (lv' := [(0, .ref 4), (1, .int 18), (2, .int 96), (3, .int 32)]) d_Tokens_init_58 rfl rfl (by decide) [1, 2, 3, 0] rfl ?_
  refine g_iload_n (pc1 := 60) d_Tokens_init_59 rfl 3 rfl ?_
  refine g_bipush (pc1 := 62) (v := 32) d_Tokens_init_60 rfl (by decide) ?_
  refine g_icmp_ne (pc1 := 65) (tgt := 71) d_Tokens_init_62 (by decide) rfl (fun h => absurd h (by decide)) (fun _ => ?_)
  refine g_iinc (pc1 := 68) (v := 19) (lv' := [(0, .ref 4), (1, .int 19), (2, .int 96), (3, .int 32)]) d_Tokens_init_65 rfl 1 rfl (by decide) (by decide) [1, 0, 2, 3] rfl ?_
  refine g_goto (tgt := 96) d_Tokens_init_68 (by decide) ?_
  refine g_iinc (pc1 := 99) (v := 97) (lv' := [(0, .ref 4), (1, .int 19), (2, .int 97), (3, .int 32)]) d_Tokens_init_96 rfl 2 rfl (by decide) (by decide) [1, 2, 0, 3] rfl ?_
  refine g_goto (tgt := 43) d_Tokens_init_99 (by decide) ?_
  refine g_iload_n (pc1 := 44) d_Tokens_init_43 rfl 2 rfl ?_
  refine g_strlen (pc1 := 49) rfl d_Tokens_init_44 d_Tokens_init_46 rfl (Nat.le_of_ble_eq_true rfl) ⟨Nat.le_of_ble_eq_true rfl, Nat.le_of_ble_eq_true rfl⟩ ?_
  refine g_icmp_ge (pc1 := 52) (tgt := 102) d_Tokens_init_49 (by decide) rfl (fun h => absurd h (by decide)) (fun _ => ?_)
  refine g_strchr (pc1 := 58) (v := 115) rfl d_Tokens_init_52 d_Tokens_init_54 d_Tokens_init_55 rfl 2 rfl (by decide) (by decide) (by decide +kernel) (Nat.le_of_ble_eq_true rfl) ⟨Nat.le_of_ble_eq_true rfl, Nat.le_of_ble_eq_true rfl⟩ ?_
  refine g_istore_n (pc1 := 59) (lv' := [(0, .ref 4), (1, .int 19), (2, .int 97), (3, .int 115)]) d_Tokens_init_58 rfl rfl (by decide) [1, 2, 3, 0] rfl ?_
  refine g_iload_n (pc1 := 60) d_Tokens_init_59 rfl 3 rfl ?_
  refine g_bipush (pc1 := 62) (v := 32) d_Tokens_init_60 rfl (by decide) ?_
  refine g_icmp_ne (pc1 := 65) (tgt := 71) d_Tokens_init_62 (by decide) rfl (fun _ => ?_) (fun h => absurd h (by decide))
  refine g_iload_n (pc1 := 72) d_Tokens_init_71 rfl 1 rfl ?_
  refine g_aload_n (pc1 := 73) d_Tokens_init_72 rfl 0 rfl ?_
  refine g_getr (pc1 := 76) d_Tokens_init_73 rfl ⟨_, fo_Tokens_9⟩ sh_4 (by decide) q368 ?_
  refine g_alen (pc1 := 77) (v := 21) d_Tokens_init_76 rfl sh_5 (by decide) (by decide) (by decide) (by decide) ?_
  refine g_icmp_ge (pc1 := 80) (tgt := 96) d_Tokens_init_77 (by decide) rfl (fun h => absurd h (by decide)) (fun _ => ?_)
  refine g_aload_n (pc1 := 81) d_Tokens_init_80 rfl 0 rfl ?_
  refine g_getr (pc1 := 84) d_Tokens_init_81 rfl ⟨_, fo_Tokens_9⟩ sh_4 (by decide) q368 ?_
  refine g_iload_n (pc1 := 85) d_Tokens_init_84 rfl 1 rfl ?_
  refine g_aload_n (pc1 := 86) d_Tokens_init_85 rfl 0 rfl ?_
  refine g_getr (pc1 := 89) d_Tokens_init_86 rfl ⟨_, fo_Tokens_9⟩ sh_4 (by decide) q368 ?_
  refine g_iload_n (pc1 := 90) d_Tokens_init_89 rfl 1 rfl ?_
  refine g_lald (pc1 := 91) d_Tokens_init_90 rfl sh_5 (by decide) (vin_lit (x := 19) (by decide)) ?_
  refine Wp.vall (y := 0) (by rw [show (19 : Int32).toNatClampNeg = 19 from by decide]; exact (Z602 19 (by decide))) ?_
  refine g_iload_n (pc1 := 92) d_Tokens_init_91 rfl 3 rfl ?_
  refine g_callS (pc1 := 95) (E' := (0, 0, 9)) (As := [.long 0, .int 115]) (rest := [.int 19, .ref 5]) d_Tokens_init_92 rfl mo_Tokens_37 ms_Tokens_withLetter (by decide) rfl rfl (Nat.le_of_ble_eq_true rfl) ⟨Nat.le_of_ble_eq_true rfl, Nat.le_of_ble_eq_true rfl⟩ rfl ?_
  refine t0_withLetter ?_
  dsimp only [psh]
  refine Wp.vall (y := 19) (by decide +kernel) ?_
  refine g_last (pc1 := 96) d_Tokens_init_95 rfl sh_5 (by decide) (vin_lit (x := 19) (by decide)) ?_
  rw [show ((19 : Int32).toNatClampNeg) = 19 from by decide]
  refine Wp.topL (fun L604 eL604 => ?_)
  have Z605 : ∀ j : Nat, 19 < j → L604 5 j = 0 := fun j hj => (rdL_ne eL604 (fun q => by omega)).trans (Z602 j (by omega))
  have q606 : L604 5 19 = 19 := rdL_eq eL604
  refine g_iinc (pc1 := 99) (v := 98) (lv' := [(0, .ref 4), (1, .int 19), (2, .int 98), (3, .int 115)]) d_Tokens_init_96 rfl 2 rfl (by decide) (by decide) [1, 2, 0, 3] rfl ?_
  refine g_goto (tgt := 43) d_Tokens_init_99 (by decide) ?_
  refine g_iload_n (pc1 := 44) d_Tokens_init_43 rfl 2 rfl ?_
  refine g_strlen (pc1 := 49) rfl d_Tokens_init_44 d_Tokens_init_46 rfl (Nat.le_of_ble_eq_true rfl) ⟨Nat.le_of_ble_eq_true rfl, Nat.le_of_ble_eq_true rfl⟩ ?_
  refine g_icmp_ge (pc1 := 52) (tgt := 102) d_Tokens_init_49 (by decide) rfl (fun h => absurd h (by decide)) (fun _ => ?_)
  refine g_strchr (pc1 := 58) (v := 116) rfl d_Tokens_init_52 d_Tokens_init_54 d_Tokens_init_55 rfl 2 rfl (by decide) (by decide) (by decide +kernel) (Nat.le_of_ble_eq_true rfl) ⟨Nat.le_of_ble_eq_true rfl, Nat.le_of_ble_eq_true rfl⟩ ?_
  refine g_istore_n (pc1 := 59) (lv' := [(0, .ref 4), (1, .int 19), (2, .int 98), (3, .int 116)]) d_Tokens_init_58 rfl rfl (by decide) [1, 2, 3, 0] rfl ?_
  refine g_iload_n (pc1 := 60) d_Tokens_init_59 rfl 3 rfl ?_
  refine g_bipush (pc1 := 62) (v := 32) d_Tokens_init_60 rfl (by decide) ?_
  refine g_icmp_ne (pc1 := 65) (tgt := 71) d_Tokens_init_62 (by decide) rfl (fun _ => ?_) (fun h => absurd h (by decide))
  refine g_iload_n (pc1 := 72) d_Tokens_init_71 rfl 1 rfl ?_
  refine g_aload_n (pc1 := 73) d_Tokens_init_72 rfl 0 rfl ?_
  refine g_getr (pc1 := 76) d_Tokens_init_73 rfl ⟨_, fo_Tokens_9⟩ sh_4 (by decide) q368 ?_
  refine g_alen (pc1 := 77) (v := 21) d_Tokens_init_76 rfl sh_5 (by decide) (by decide) (by decide) (by decide) ?_
  refine g_icmp_ge (pc1 := 80) (tgt := 96) d_Tokens_init_77 (by decide) rfl (fun h => absurd h (by decide)) (fun _ => ?_)
  refine g_aload_n (pc1 := 81) d_Tokens_init_80 rfl 0 rfl ?_
  refine g_getr (pc1 := 84) d_Tokens_init_81 rfl ⟨_, fo_Tokens_9⟩ sh_4 (by decide) q368 ?_
  refine g_iload_n (pc1 := 85) d_Tokens_init_84 rfl 1 rfl ?_
  refine g_aload_n (pc1 := 86) d_Tokens_init_85 rfl 0 rfl ?_
  refine g_getr (pc1 := 89) d_Tokens_init_86 rfl ⟨_, fo_Tokens_9⟩ sh_4 (by decide) q368 ?_
  refine g_iload_n (pc1 := 90) d_Tokens_init_89 rfl 1 rfl ?_
  refine g_lald (pc1 := 91) d_Tokens_init_90 rfl sh_5 (by decide) (vin_lit (x := 19) (by decide)) ?_
  refine Wp.vall (y := 19) (by rw [show (19 : Int32).toNatClampNeg = 19 from by decide]; exact q606) ?_
  refine g_iload_n (pc1 := 92) d_Tokens_init_91 rfl 3 rfl ?_
  refine g_callS (pc1 := 95) (E' := (0, 0, 9)) (As := [.long 19, .int 116]) (rest := [.int 19, .ref 5]) d_Tokens_init_92 rfl mo_Tokens_37 ms_Tokens_withLetter (by decide) rfl rfl (Nat.le_of_ble_eq_true rfl) ⟨Nat.le_of_ble_eq_true rfl, Nat.le_of_ble_eq_true rfl⟩ rfl ?_
  refine t0_withLetter ?_
  dsimp only [psh]
  refine Wp.vall (y := 628) (by decide +kernel) ?_
  refine g_last (pc1 := 96) d_Tokens_init_95 rfl sh_5 (by decide) (vin_lit (x := 19) (by decide)) ?_
  rw [show ((19 : Int32).toNatClampNeg) = 19 from by decide]
  refine Wp.topL (fun L607 eL607 => ?_)
  have Z608 : ∀ j : Nat, 19 < j → L607 5 j = 0 := fun j hj => (rdL_ne eL607 (fun q => by omega)).trans (Z605 j (by omega))
  have q609 : L607 5 19 = 628 := rdL_eq eL607
  refine g_iinc (pc1 := 99) (v := 99) (lv' := [(0, .ref 4), (1, .int 19), (2, .int 99), (3, .int 116)]) d_Tokens_init_96 rfl 2 rfl (by decide) (by decide) [1, 2, 0, 3] rfl ?_
  refine g_goto (tgt := 43) d_Tokens_init_99 (by decide) ?_
  refine g_iload_n (pc1 := 44) d_Tokens_init_43 rfl 2 rfl ?_
  refine g_strlen (pc1 := 49) rfl d_Tokens_init_44 d_Tokens_init_46 rfl (Nat.le_of_ble_eq_true rfl) ⟨Nat.le_of_ble_eq_true rfl, Nat.le_of_ble_eq_true rfl⟩ ?_
  refine g_icmp_ge (pc1 := 52) (tgt := 102) d_Tokens_init_49 (by decide) rfl (fun h => absurd h (by decide)) (fun _ => ?_)
  refine g_strchr (pc1 := 58) (v := 111) rfl d_Tokens_init_52 d_Tokens_init_54 d_Tokens_init_55 rfl 2 rfl (by decide) (by decide) (by decide +kernel) (Nat.le_of_ble_eq_true rfl) ⟨Nat.le_of_ble_eq_true rfl, Nat.le_of_ble_eq_true rfl⟩ ?_
  refine g_istore_n (pc1 := 59) (lv' := [(0, .ref 4), (1, .int 19), (2, .int 99), (3, .int 111)]) d_Tokens_init_58 rfl rfl (by decide) [1, 2, 3, 0] rfl ?_
  refine g_iload_n (pc1 := 60) d_Tokens_init_59 rfl 3 rfl ?_
  refine g_bipush (pc1 := 62) (v := 32) d_Tokens_init_60 rfl (by decide) ?_
  refine g_icmp_ne (pc1 := 65) (tgt := 71) d_Tokens_init_62 (by decide) rfl (fun _ => ?_) (fun h => absurd h (by decide))
  refine g_iload_n (pc1 := 72) d_Tokens_init_71 rfl 1 rfl ?_
  refine g_aload_n (pc1 := 73) d_Tokens_init_72 rfl 0 rfl ?_
  refine g_getr (pc1 := 76) d_Tokens_init_73 rfl ⟨_, fo_Tokens_9⟩ sh_4 (by decide) q368 ?_
  refine g_alen (pc1 := 77) (v := 21) d_Tokens_init_76 rfl sh_5 (by decide) (by decide) (by decide) (by decide) ?_
  refine g_icmp_ge (pc1 := 80) (tgt := 96) d_Tokens_init_77 (by decide) rfl (fun h => absurd h (by decide)) (fun _ => ?_)
  refine g_aload_n (pc1 := 81) d_Tokens_init_80 rfl 0 rfl ?_
  refine g_getr (pc1 := 84) d_Tokens_init_81 rfl ⟨_, fo_Tokens_9⟩ sh_4 (by decide) q368 ?_
  refine g_iload_n (pc1 := 85) d_Tokens_init_84 rfl 1 rfl ?_
  refine g_aload_n (pc1 := 86) d_Tokens_init_85 rfl 0 rfl ?_
  refine g_getr (pc1 := 89) d_Tokens_init_86 rfl ⟨_, fo_Tokens_9⟩ sh_4 (by decide) q368 ?_
  refine g_iload_n (pc1 := 90) d_Tokens_init_89 rfl 1 rfl ?_
  refine g_lald (pc1 := 91) d_Tokens_init_90 rfl sh_5 (by decide) (vin_lit (x := 19) (by decide)) ?_
  refine Wp.vall (y := 628) (by rw [show (19 : Int32).toNatClampNeg = 19 from by decide]; exact q609) ?_
  refine g_iload_n (pc1 := 92) d_Tokens_init_91 rfl 3 rfl ?_
  refine g_callS (pc1 := 95) (E' := (0, 0, 9)) (As := [.long 628, .int 111]) (rest := [.int 19, .ref 5]) d_Tokens_init_92 rfl mo_Tokens_37 ms_Tokens_withLetter (by decide) rfl rfl (Nat.le_of_ble_eq_true rfl) ⟨Nat.le_of_ble_eq_true rfl, Nat.le_of_ble_eq_true rfl⟩ rfl ?_
  refine t0_withLetter ?_
  dsimp only [psh]
  refine Wp.vall (y := 20111) (by decide +kernel) ?_
  refine g_last (pc1 := 96) d_Tokens_init_95 rfl sh_5 (by decide) (vin_lit (x := 19) (by decide)) ?_
  rw [show ((19 : Int32).toNatClampNeg) = 19 from by decide]
  refine Wp.topL (fun L610 eL610 => ?_)
  have Z611 : ∀ j : Nat, 19 < j → L610 5 j = 0 := fun j hj => (rdL_ne eL610 (fun q => by omega)).trans (Z608 j (by omega))
  have q612 : L610 5 19 = 20111 := rdL_eq eL610
  refine g_iinc (pc1 := 99) (v := 100) (lv' := [(0, .ref 4), (1, .int 19), (2, .int 100), (3, .int 111)]) d_Tokens_init_96 rfl 2 rfl (by decide) (by decide) [1, 2, 0, 3] rfl ?_
  refine g_goto (tgt := 43) d_Tokens_init_99 (by decide) ?_
  refine g_iload_n (pc1 := 44) d_Tokens_init_43 rfl 2 rfl ?_
  refine g_strlen (pc1 := 49) rfl d_Tokens_init_44 d_Tokens_init_46 rfl (Nat.le_of_ble_eq_true rfl) ⟨Nat.le_of_ble_eq_true rfl, Nat.le_of_ble_eq_true rfl⟩ ?_
  refine g_icmp_ge (pc1 := 52) (tgt := 102) d_Tokens_init_49 (by decide) rfl (fun h => absurd h (by decide)) (fun _ => ?_)
  refine g_strchr (pc1 := 58) (v := 99) rfl d_Tokens_init_52 d_Tokens_init_54 d_Tokens_init_55 rfl 2 rfl (by decide) (by decide) (by decide +kernel) (Nat.le_of_ble_eq_true rfl) ⟨Nat.le_of_ble_eq_true rfl, Nat.le_of_ble_eq_true rfl⟩ ?_
  refine g_istore_n (pc1 := 59) (lv' := [(0, .ref 4), (1, .int 19), (2, .int 100), (3, .int 99)]) d_Tokens_init_58 rfl rfl (by decide) [1, 2, 3, 0] rfl ?_
  refine g_iload_n (pc1 := 60) d_Tokens_init_59 rfl 3 rfl ?_
  refine g_bipush (pc1 := 62) (v := 32) d_Tokens_init_60 rfl (by decide) ?_
  refine g_icmp_ne (pc1 := 65) (tgt := 71) d_Tokens_init_62 (by decide) rfl (fun _ => ?_) (fun h => absurd h (by decide))
  refine g_iload_n (pc1 := 72) d_Tokens_init_71 rfl 1 rfl ?_
  refine g_aload_n (pc1 := 73) d_Tokens_init_72 rfl 0 rfl ?_
  refine g_getr (pc1 := 76) d_Tokens_init_73 rfl ⟨_, fo_Tokens_9⟩ sh_4 (by decide) q368 ?_
  refine g_alen (pc1 := 77) (v := 21) d_Tokens_init_76 rfl sh_5 (by decide) (by decide) (by decide) (by decide) ?_
  refine g_icmp_ge (pc1 := 80) (tgt := 96) d_Tokens_init_77 (by decide) rfl (fun h => absurd h (by decide)) (fun _ => ?_)
  refine g_aload_n (pc1 := 81) d_Tokens_init_80 rfl 0 rfl ?_
  refine g_getr (pc1 := 84) d_Tokens_init_81 rfl ⟨_, fo_Tokens_9⟩ sh_4 (by decide) q368 ?_
  refine g_iload_n (pc1 := 85) d_Tokens_init_84 rfl 1 rfl ?_
  refine g_aload_n (pc1 := 86) d_Tokens_init_85 rfl 0 rfl ?_
  refine g_getr (pc1 := 89) d_Tokens_init_86 rfl ⟨_, fo_Tokens_9⟩ sh_4 (by decide) q368 ?_
  refine g_iload_n (pc1 := 90) d_Tokens_init_89 rfl 1 rfl ?_
  refine g_lald (pc1 := 91) d_Tokens_init_90 rfl sh_5 (by decide) (vin_lit (x := 19) (by decide)) ?_
  refine Wp.vall (y := 20111) (by rw [show (19 : Int32).toNatClampNeg = 19 from by decide]; exact q612) ?_
  refine g_iload_n (pc1 := 92) d_Tokens_init_91 rfl 3 rfl ?_
  refine g_callS (pc1 := 95) (E' := (0, 0, 9)) (As := [.long 20111, .int 99]) (rest := [.int 19, .ref 5]) d_Tokens_init_92 rfl mo_Tokens_37 ms_Tokens_withLetter (by decide) rfl rfl (Nat.le_of_ble_eq_true rfl) ⟨Nat.le_of_ble_eq_true rfl, Nat.le_of_ble_eq_true rfl⟩ rfl ?_
  refine t0_withLetter ?_
  dsimp only [psh]
  refine Wp.vall (y := 643555) (by decide +kernel) ?_
  refine g_last (pc1 := 96) d_Tokens_init_95 rfl sh_5 (by decide) (vin_lit (x := 19) (by decide)) ?_
  rw [show ((19 : Int32).toNatClampNeg) = 19 from by decide]
  refine Wp.topL (fun L613 eL613 => ?_)
  have Z614 : ∀ j : Nat, 19 < j → L613 5 j = 0 := fun j hj => (rdL_ne eL613 (fun q => by omega)).trans (Z611 j (by omega))
  have q615 : L613 5 19 = 643555 := rdL_eq eL613
  refine g_iinc (pc1 := 99) (v := 101) (lv' := [(0, .ref 4), (1, .int 19), (2, .int 101), (3, .int 99)]) d_Tokens_init_96 rfl 2 rfl (by decide) (by decide) [1, 2, 0, 3] rfl ?_
  refine g_goto (tgt := 43) d_Tokens_init_99 (by decide) ?_
  refine g_iload_n (pc1 := 44) d_Tokens_init_43 rfl 2 rfl ?_
  refine g_strlen (pc1 := 49) rfl d_Tokens_init_44 d_Tokens_init_46 rfl (Nat.le_of_ble_eq_true rfl) ⟨Nat.le_of_ble_eq_true rfl, Nat.le_of_ble_eq_true rfl⟩ ?_
  refine g_icmp_ge (pc1 := 52) (tgt := 102) d_Tokens_init_49 (by decide) rfl (fun h => absurd h (by decide)) (fun _ => ?_)
  refine g_strchr (pc1 := 58) (v := 107) rfl d_Tokens_init_52 d_Tokens_init_54 d_Tokens_init_55 rfl 2 rfl (by decide) (by decide) (by decide +kernel) (Nat.le_of_ble_eq_true rfl) ⟨Nat.le_of_ble_eq_true rfl, Nat.le_of_ble_eq_true rfl⟩ ?_
  refine g_istore_n (pc1 := 59) (lv' := [(0, .ref 4), (1, .int 19), (2, .int 101), (3, .int 107)]) d_Tokens_init_58 rfl rfl (by decide) [1, 2, 3, 0] rfl ?_
  refine g_iload_n (pc1 := 60) d_Tokens_init_59 rfl 3 rfl ?_
  refine g_bipush (pc1 := 62) (v := 32) d_Tokens_init_60 rfl (by decide) ?_
  refine g_icmp_ne (pc1 := 65) (tgt := 71) d_Tokens_init_62 (by decide) rfl (fun _ => ?_) (fun h => absurd h (by decide))
  refine g_iload_n (pc1 := 72) d_Tokens_init_71 rfl 1 rfl ?_
  refine g_aload_n (pc1 := 73) d_Tokens_init_72 rfl 0 rfl ?_
  refine g_getr (pc1 := 76) d_Tokens_init_73 rfl ⟨_, fo_Tokens_9⟩ sh_4 (by decide) q368 ?_
  refine g_alen (pc1 := 77) (v := 21) d_Tokens_init_76 rfl sh_5 (by decide) (by decide) (by decide) (by decide) ?_
  refine g_icmp_ge (pc1 := 80) (tgt := 96) d_Tokens_init_77 (by decide) rfl (fun h => absurd h (by decide)) (fun _ => ?_)
  refine g_aload_n (pc1 := 81) d_Tokens_init_80 rfl 0 rfl ?_
  refine g_getr (pc1 := 84) d_Tokens_init_81 rfl ⟨_, fo_Tokens_9⟩ sh_4 (by decide) q368 ?_
  refine g_iload_n (pc1 := 85) d_Tokens_init_84 rfl 1 rfl ?_
  refine g_aload_n (pc1 := 86) d_Tokens_init_85 rfl 0 rfl ?_
  refine g_getr (pc1 := 89) d_Tokens_init_86 rfl ⟨_, fo_Tokens_9⟩ sh_4 (by decide) q368 ?_
  refine g_iload_n (pc1 := 90) d_Tokens_init_89 rfl 1 rfl ?_
  refine g_lald (pc1 := 91) d_Tokens_init_90 rfl sh_5 (by decide) (vin_lit (x := 19) (by decide)) ?_
  refine Wp.vall (y := 643555) (by rw [show (19 : Int32).toNatClampNeg = 19 from by decide]; exact q615) ?_
  refine g_iload_n (pc1 := 92) d_Tokens_init_91 rfl 3 rfl ?_
  refine g_callS (pc1 := 95) (E' := (0, 0, 9)) (As := [.long 643555, .int 107]) (rest := [.int 19, .ref 5]) d_Tokens_init_92 rfl mo_Tokens_37 ms_Tokens_withLetter (by decide) rfl rfl (Nat.le_of_ble_eq_true rfl) ⟨Nat.le_of_ble_eq_true rfl, Nat.le_of_ble_eq_true rfl⟩ rfl ?_
  refine t0_withLetter ?_
  dsimp only [psh]
  refine Wp.vall (y := 20593771) (by decide +kernel) ?_
  refine g_last (pc1 := 96) d_Tokens_init_95 rfl sh_5 (by decide) (vin_lit (x := 19) (by decide)) ?_
  rw [show ((19 : Int32).toNatClampNeg) = 19 from by decide]
  refine Wp.topL (fun L616 eL616 => ?_)
  have Z617 : ∀ j : Nat, 19 < j → L616 5 j = 0 := fun j hj => (rdL_ne eL616 (fun q => by omega)).trans (Z614 j (by omega))
  have q618 : L616 5 19 = 20593771 := rdL_eq eL616
  refine g_iinc (pc1 := 99) (v := 102) (lv' := [(0, .ref 4), (1, .int 19), (2, .int 102), (3, .int 107)]) d_Tokens_init_96 rfl 2 rfl (by decide) (by decide) [1, 2, 0, 3] rfl ?_
  refine g_goto (tgt := 43) d_Tokens_init_99 (by decide) ?_
  refine g_iload_n (pc1 := 44) d_Tokens_init_43 rfl 2 rfl ?_
  refine g_strlen (pc1 := 49) rfl d_Tokens_init_44 d_Tokens_init_46 rfl (Nat.le_of_ble_eq_true rfl) ⟨Nat.le_of_ble_eq_true rfl, Nat.le_of_ble_eq_true rfl⟩ ?_
  refine g_icmp_ge (pc1 := 52) (tgt := 102) d_Tokens_init_49 (by decide) rfl (fun h => absurd h (by decide)) (fun _ => ?_)
  refine g_strchr (pc1 := 58) (v := 32) rfl d_Tokens_init_52 d_Tokens_init_54 d_Tokens_init_55 rfl 2 rfl (by decide) (by decide) (by decide +kernel) (Nat.le_of_ble_eq_true rfl) ⟨Nat.le_of_ble_eq_true rfl, Nat.le_of_ble_eq_true rfl⟩ ?_
  refine g_istore_n (pc1 := 59) (lv' := [(0, .ref 4), (1, .int 19), (2, .int 102), (3, .int 32)]) d_Tokens_init_58 rfl rfl (by decide) [1, 2, 3, 0] rfl ?_
  refine g_iload_n (pc1 := 60) d_Tokens_init_59 rfl 3 rfl ?_
  refine g_bipush (pc1 := 62) (v := 32) d_Tokens_init_60 rfl (by decide) ?_
  refine g_icmp_ne (pc1 := 65) (tgt := 71) d_Tokens_init_62 (by decide) rfl (fun h => absurd h (by decide)) (fun _ => ?_)
  refine g_iinc (pc1 := 68) (v := 20) (lv' := [(0, .ref 4), (1, .int 20), (2, .int 102), (3, .int 32)]) d_Tokens_init_65 rfl 1 rfl (by decide) (by decide) [1, 0, 2, 3] rfl ?_
  refine g_goto (tgt := 96) d_Tokens_init_68 (by decide) ?_
  refine g_iinc (pc1 := 99) (v := 103) (lv' := [(0, .ref 4), (1, .int 20), (2, .int 103), (3, .int 32)]) d_Tokens_init_96 rfl 2 rfl (by decide) (by decide) [1, 2, 0, 3] rfl ?_
  refine g_goto (tgt := 43) d_Tokens_init_99 (by decide) ?_
  refine g_iload_n (pc1 := 44) d_Tokens_init_43 rfl 2 rfl ?_
  refine g_strlen (pc1 := 49) rfl d_Tokens_init_44 d_Tokens_init_46 rfl (Nat.le_of_ble_eq_true rfl) ⟨Nat.le_of_ble_eq_true rfl, Nat.le_of_ble_eq_true rfl⟩ ?_
  refine g_icmp_ge (pc1 := 52) (tgt := 102) d_Tokens_init_49 (by decide) rfl (fun h => absurd h (by decide)) (fun _ => ?_)
  refine g_strchr (pc1 := 58) (v := 112) rfl d_Tokens_init_52 d_Tokens_init_54 d_Tokens_init_55 rfl 2 rfl (by decide) (by decide) (by decide +kernel) (Nat.le_of_ble_eq_true rfl) ⟨Nat.le_of_ble_eq_true rfl, Nat.le_of_ble_eq_true rfl⟩ ?_
  refine g_istore_n (pc1 := 59) (lv' := [(0, .ref 4), (1, .int 20), (2, .int 103), (3, .int 112)]) d_Tokens_init_58 rfl rfl (by decide) [1, 2, 3, 0] rfl ?_
  refine g_iload_n (pc1 := 60) d_Tokens_init_59 rfl 3 rfl ?_
  refine g_bipush (pc1 := 62) (v := 32) d_Tokens_init_60 rfl (by decide) ?_
  refine g_icmp_ne (pc1 := 65) (tgt := 71) d_Tokens_init_62 (by decide) rfl (fun _ => ?_) (fun h => absurd h (by decide))
  refine g_iload_n (pc1 := 72) d_Tokens_init_71 rfl 1 rfl ?_
  refine g_aload_n (pc1 := 73) d_Tokens_init_72 rfl 0 rfl ?_
  refine g_getr (pc1 := 76) d_Tokens_init_73 rfl ⟨_, fo_Tokens_9⟩ sh_4 (by decide) q368 ?_
  refine g_alen (pc1 := 77) (v := 21) d_Tokens_init_76 rfl sh_5 (by decide) (by decide) (by decide) (by decide) ?_
  refine g_icmp_ge (pc1 := 80) (tgt := 96) d_Tokens_init_77 (by decide) rfl (fun h => absurd h (by decide)) (fun _ => ?_)
  refine g_aload_n (pc1 := 81) d_Tokens_init_80 rfl 0 rfl ?_
  refine g_getr (pc1 := 84) d_Tokens_init_81 rfl ⟨_, fo_Tokens_9⟩ sh_4 (by decide) q368 ?_
  refine g_iload_n (pc1 := 85) d_Tokens_init_84 rfl 1 rfl ?_
  refine g_aload_n (pc1 := 86) d_Tokens_init_85 rfl 0 rfl ?_
  refine g_getr (pc1 := 89) d_Tokens_init_86 rfl ⟨_, fo_Tokens_9⟩ sh_4 (by decide) q368 ?_
  refine g_iload_n (pc1 := 90) d_Tokens_init_89 rfl 1 rfl ?_
  refine g_lald (pc1 := 91) d_Tokens_init_90 rfl sh_5 (by decide) (vin_lit (x := 20) (by decide)) ?_
  refine Wp.vall (y := 0) (by rw [show (20 : Int32).toNatClampNeg = 20 from by decide]; exact (Z617 20 (by decide))) ?_
  refine g_iload_n (pc1 := 92) d_Tokens_init_91 rfl 3 rfl ?_
  refine g_callS (pc1 := 95) (E' := (0, 0, 9)) (As := [.long 0, .int 112]) (rest := [.int 20, .ref 5]) d_Tokens_init_92 rfl mo_Tokens_37 ms_Tokens_withLetter (by decide) rfl rfl (Nat.le_of_ble_eq_true rfl) ⟨Nat.le_of_ble_eq_true rfl, Nat.le_of_ble_eq_true rfl⟩ rfl ?_
  refine t0_withLetter ?_
  dsimp only [psh]
  refine Wp.vall (y := 16) (by decide +kernel) ?_
  refine g_last (pc1 := 96) d_Tokens_init_95 rfl sh_5 (by decide) (vin_lit (x := 20) (by decide)) ?_
  rw [show ((20 : Int32).toNatClampNeg) = 20 from by decide]
  refine Wp.topL (fun L619 eL619 => ?_)
  have Z620 : ∀ j : Nat, 20 < j → L619 5 j = 0 := fun j hj => (rdL_ne eL619 (fun q => by omega)).trans (Z617 j (by omega))
  have q621 : L619 5 20 = 16 := rdL_eq eL619
  refine g_iinc (pc1 := 99) (v := 104) (lv' := [(0, .ref 4), (1, .int 20), (2, .int 104), (3, .int 112)]) d_Tokens_init_96 rfl 2 rfl (by decide) (by decide) [1, 2, 0, 3] rfl ?_
  refine g_goto (tgt := 43) d_Tokens_init_99 (by decide) ?_
  refine g_iload_n (pc1 := 44) d_Tokens_init_43 rfl 2 rfl ?_
  refine g_strlen (pc1 := 49) rfl d_Tokens_init_44 d_Tokens_init_46 rfl (Nat.le_of_ble_eq_true rfl) ⟨Nat.le_of_ble_eq_true rfl, Nat.le_of_ble_eq_true rfl⟩ ?_
  refine g_icmp_ge (pc1 := 52) (tgt := 102) d_Tokens_init_49 (by decide) rfl (fun h => absurd h (by decide)) (fun _ => ?_)
  refine g_strchr (pc1 := 58) (v := 114) rfl d_Tokens_init_52 d_Tokens_init_54 d_Tokens_init_55 rfl 2 rfl (by decide) (by decide) (by decide +kernel) (Nat.le_of_ble_eq_true rfl) ⟨Nat.le_of_ble_eq_true rfl, Nat.le_of_ble_eq_true rfl⟩ ?_
  refine g_istore_n (pc1 := 59) (lv' := [(0, .ref 4), (1, .int 20), (2, .int 104), (3, .int 114)]) d_Tokens_init_58 rfl rfl (by decide) [1, 2, 3, 0] rfl ?_
  refine g_iload_n (pc1 := 60) d_Tokens_init_59 rfl 3 rfl ?_
  refine g_bipush (pc1 := 62) (v := 32) d_Tokens_init_60 rfl (by decide) ?_
  refine g_icmp_ne (pc1 := 65) (tgt := 71) d_Tokens_init_62 (by decide) rfl (fun _ => ?_) (fun h => absurd h (by decide))
  refine g_iload_n (pc1 := 72) d_Tokens_init_71 rfl 1 rfl ?_
  refine g_aload_n (pc1 := 73) d_Tokens_init_72 rfl 0 rfl ?_
  refine g_getr (pc1 := 76) d_Tokens_init_73 rfl ⟨_, fo_Tokens_9⟩ sh_4 (by decide) q368 ?_
  refine g_alen (pc1 := 77) (v := 21) d_Tokens_init_76 rfl sh_5 (by decide) (by decide) (by decide) (by decide) ?_
  refine g_icmp_ge (pc1 := 80) (tgt := 96) d_Tokens_init_77 (by decide) rfl (fun h => absurd h (by decide)) (fun _ => ?_)
  refine g_aload_n (pc1 := 81) d_Tokens_init_80 rfl 0 rfl ?_
  refine g_getr (pc1 := 84) d_Tokens_init_81 rfl ⟨_, fo_Tokens_9⟩ sh_4 (by decide) q368 ?_
  refine g_iload_n (pc1 := 85) d_Tokens_init_84 rfl 1 rfl ?_
  refine g_aload_n (pc1 := 86) d_Tokens_init_85 rfl 0 rfl ?_
  refine g_getr (pc1 := 89) d_Tokens_init_86 rfl ⟨_, fo_Tokens_9⟩ sh_4 (by decide) q368 ?_
  refine g_iload_n (pc1 := 90) d_Tokens_init_89 rfl 1 rfl ?_
  refine g_lald (pc1 := 91) d_Tokens_init_90 rfl sh_5 (by decide) (vin_lit (x := 20) (by decide)) ?_
  refine Wp.vall (y := 16) (by rw [show (20 : Int32).toNatClampNeg = 20 from by decide]; exact q621) ?_
  refine g_iload_n (pc1 := 92) d_Tokens_init_91 rfl 3 rfl ?_
  refine g_callS (pc1 := 95) (E' := (0, 0, 9)) (As := [.long 16, .int 114]) (rest := [.int 20, .ref 5]) d_Tokens_init_92 rfl mo_Tokens_37 ms_Tokens_withLetter (by decide) rfl rfl (Nat.le_of_ble_eq_true rfl) ⟨Nat.le_of_ble_eq_true rfl, Nat.le_of_ble_eq_true rfl⟩ rfl ?_
  refine t0_withLetter ?_
  dsimp only [psh]
  refine Wp.vall (y := 530) (by decide +kernel) ?_
  refine g_last (pc1 := 96) d_Tokens_init_95 rfl sh_5 (by decide) (vin_lit (x := 20) (by decide)) ?_
  rw [show ((20 : Int32).toNatClampNeg) = 20 from by decide]
  refine Wp.topL (fun L622 eL622 => ?_)
  have Z623 : ∀ j : Nat, 20 < j → L622 5 j = 0 := fun j hj => (rdL_ne eL622 (fun q => by omega)).trans (Z620 j (by omega))
  have q624 : L622 5 20 = 530 := rdL_eq eL622
  refine g_iinc (pc1 := 99) (v := 105) (lv' := [(0, .ref 4), (1, .int 20), (2, .int 105), (3, .int 114)]) d_Tokens_init_96 rfl 2 rfl (by decide) (by decide) [1, 2, 0, 3] rfl ?_
  refine g_goto (tgt := 43) d_Tokens_init_99 (by decide) ?_
  refine g_iload_n (pc1 := 44) d_Tokens_init_43 rfl 2 rfl ?_
  refine g_strlen (pc1 := 49) rfl d_Tokens_init_44 d_Tokens_init_46 rfl (Nat.le_of_ble_eq_true rfl) ⟨Nat.le_of_ble_eq_true rfl, Nat.le_of_ble_eq_true rfl⟩ ?_
  refine g_icmp_ge (pc1 := 52) (tgt := 102) d_Tokens_init_49 (by decide) rfl (fun h => absurd h (by decide)) (fun _ => ?_)
  refine g_strchr (pc1 := 58) (v := 105) rfl d_Tokens_init_52 d_Tokens_init_54 d_Tokens_init_55 rfl 2 rfl (by decide) (by decide) (by decide +kernel) (Nat.le_of_ble_eq_true rfl) ⟨Nat.le_of_ble_eq_true rfl, Nat.le_of_ble_eq_true rfl⟩ ?_
  refine g_istore_n (pc1 := 59) (lv' := [(0, .ref 4), (1, .int 20), (2, .int 105), (3, .int 105)]) d_Tokens_init_58 rfl rfl (by decide) [1, 2, 3, 0] rfl ?_
  refine g_iload_n (pc1 := 60) d_Tokens_init_59 rfl 3 rfl ?_
  refine g_bipush (pc1 := 62) (v := 32) d_Tokens_init_60 rfl (by decide) ?_
  refine g_icmp_ne (pc1 := 65) (tgt := 71) d_Tokens_init_62 (by decide) rfl (fun _ => ?_) (fun h => absurd h (by decide))
  refine g_iload_n (pc1 := 72) d_Tokens_init_71 rfl 1 rfl ?_
  refine g_aload_n (pc1 := 73) d_Tokens_init_72 rfl 0 rfl ?_
  refine g_getr (pc1 := 76) d_Tokens_init_73 rfl ⟨_, fo_Tokens_9⟩ sh_4 (by decide) q368 ?_
  refine g_alen (pc1 := 77) (v := 21) d_Tokens_init_76 rfl sh_5 (by decide) (by decide) (by decide) (by decide) ?_
  refine g_icmp_ge (pc1 := 80) (tgt := 96) d_Tokens_init_77 (by decide) rfl (fun h => absurd h (by decide)) (fun _ => ?_)
  refine g_aload_n (pc1 := 81) d_Tokens_init_80 rfl 0 rfl ?_
  refine g_getr (pc1 := 84) d_Tokens_init_81 rfl ⟨_, fo_Tokens_9⟩ sh_4 (by decide) q368 ?_
  refine g_iload_n (pc1 := 85) d_Tokens_init_84 rfl 1 rfl ?_
  refine g_aload_n (pc1 := 86) d_Tokens_init_85 rfl 0 rfl ?_
  refine g_getr (pc1 := 89) d_Tokens_init_86 rfl ⟨_, fo_Tokens_9⟩ sh_4 (by decide) q368 ?_
  refine g_iload_n (pc1 := 90) d_Tokens_init_89 rfl 1 rfl ?_
  refine g_lald (pc1 := 91) d_Tokens_init_90 rfl sh_5 (by decide) (vin_lit (x := 20) (by decide)) ?_
  refine Wp.vall (y := 530) (by rw [show (20 : Int32).toNatClampNeg = 20 from by decide]; exact q624) ?_
  refine g_iload_n (pc1 := 92) d_Tokens_init_91 rfl 3 rfl ?_
  refine g_callS (pc1 := 95) (E' := (0, 0, 9)) (As := [.long 530, .int 105]) (rest := [.int 20, .ref 5]) d_Tokens_init_92 rfl mo_Tokens_37 ms_Tokens_withLetter (by decide) rfl rfl (Nat.le_of_ble_eq_true rfl) ⟨Nat.le_of_ble_eq_true rfl, Nat.le_of_ble_eq_true rfl⟩ rfl ?_
  refine t0_withLetter ?_
  dsimp only [psh]
  refine Wp.vall (y := 16969) (by decide +kernel) ?_
  refine g_last (pc1 := 96) d_Tokens_init_95 rfl sh_5 (by decide) (vin_lit (x := 20) (by decide)) ?_
  rw [show ((20 : Int32).toNatClampNeg) = 20 from by decide]
  refine Wp.topL (fun L625 eL625 => ?_)
  have Z626 : ∀ j : Nat, 20 < j → L625 5 j = 0 := fun j hj => (rdL_ne eL625 (fun q => by omega)).trans (Z623 j (by omega))
  have q627 : L625 5 20 = 16969 := rdL_eq eL625
  refine g_iinc (pc1 := 99) (v := 106) (lv' := [(0, .ref 4), (1, .int 20), (2, .int 106), (3, .int 105)]) d_Tokens_init_96 rfl 2 rfl (by decide) (by decide) [1, 2, 0, 3] rfl ?_
  refine g_goto (tgt := 43) d_Tokens_init_99 (by decide) ?_
  refine g_iload_n (pc1 := 44) d_Tokens_init_43 rfl 2 rfl ?_
  refine g_strlen (pc1 := 49) rfl d_Tokens_init_44 d_Tokens_init_46 rfl (Nat.le_of_ble_eq_true rfl) ⟨Nat.le_of_ble_eq_true rfl, Nat.le_of_ble_eq_true rfl⟩ ?_
  refine g_icmp_ge (pc1 := 52) (tgt := 102) d_Tokens_init_49 (by decide) rfl (fun h => absurd h (by decide)) (fun _ => ?_)
  refine g_strchr (pc1 := 58) (v := 99) rfl d_Tokens_init_52 d_Tokens_init_54 d_Tokens_init_55 rfl 2 rfl (by decide) (by decide) (by decide +kernel) (Nat.le_of_ble_eq_true rfl) ⟨Nat.le_of_ble_eq_true rfl, Nat.le_of_ble_eq_true rfl⟩ ?_
  refine g_istore_n (pc1 := 59) (lv' := [(0, .ref 4), (1, .int 20), (2, .int 106), (3, .int 99)]) d_Tokens_init_58 rfl rfl (by decide) [1, 2, 3, 0] rfl ?_
  refine g_iload_n (pc1 := 60) d_Tokens_init_59 rfl 3 rfl ?_
  refine g_bipush (pc1 := 62) (v := 32) d_Tokens_init_60 rfl (by decide) ?_
  refine g_icmp_ne (pc1 := 65) (tgt := 71) d_Tokens_init_62 (by decide) rfl (fun _ => ?_) (fun h => absurd h (by decide))
  refine g_iload_n (pc1 := 72) d_Tokens_init_71 rfl 1 rfl ?_
  refine g_aload_n (pc1 := 73) d_Tokens_init_72 rfl 0 rfl ?_
  refine g_getr (pc1 := 76) d_Tokens_init_73 rfl ⟨_, fo_Tokens_9⟩ sh_4 (by decide) q368 ?_
  refine g_alen (pc1 := 77) (v := 21) d_Tokens_init_76 rfl sh_5 (by decide) (by decide) (by decide) (by decide) ?_
  refine g_icmp_ge (pc1 := 80) (tgt := 96) d_Tokens_init_77 (by decide) rfl (fun h => absurd h (by decide)) (fun _ => ?_)
  refine g_aload_n (pc1 := 81) d_Tokens_init_80 rfl 0 rfl ?_
  refine g_getr (pc1 := 84) d_Tokens_init_81 rfl ⟨_, fo_Tokens_9⟩ sh_4 (by decide) q368 ?_
  refine g_iload_n (pc1 := 85) d_Tokens_init_84 rfl 1 rfl ?_
  refine g_aload_n (pc1 := 86) d_Tokens_init_85 rfl 0 rfl ?_
  refine g_getr (pc1 := 89) d_Tokens_init_86 rfl ⟨_, fo_Tokens_9⟩ sh_4 (by decide) q368 ?_
  refine g_iload_n (pc1 := 90) d_Tokens_init_89 rfl 1 rfl ?_
  refine g_lald (pc1 := 91) d_Tokens_init_90 rfl sh_5 (by decide) (vin_lit (x := 20) (by decide)) ?_
  refine Wp.vall (y := 16969) (by rw [show (20 : Int32).toNatClampNeg = 20 from by decide]; exact q627) ?_
  refine g_iload_n (pc1 := 92) d_Tokens_init_91 rfl 3 rfl ?_
  refine g_callS (pc1 := 95) (E' := (0, 0, 9)) (As := [.long 16969, .int 99]) (rest := [.int 20, .ref 5]) d_Tokens_init_92 rfl mo_Tokens_37 ms_Tokens_withLetter (by decide) rfl rfl (Nat.le_of_ble_eq_true rfl) ⟨Nat.le_of_ble_eq_true rfl, Nat.le_of_ble_eq_true rfl⟩ rfl ?_
  refine t0_withLetter ?_
  dsimp only [psh]
  refine Wp.vall (y := 543011) (by decide +kernel) ?_
  refine g_last (pc1 := 96) d_Tokens_init_95 rfl sh_5 (by decide) (vin_lit (x := 20) (by decide)) ?_
  rw [show ((20 : Int32).toNatClampNeg) = 20 from by decide]
  refine Wp.topL (fun L628 eL628 => ?_)
  have Z629 : ∀ j : Nat, 20 < j → L628 5 j = 0 := fun j hj => (rdL_ne eL628 (fun q => by omega)).trans (Z626 j (by omega))
  have q630 : L628 5 20 = 543011 := rdL_eq eL628
  refine g_iinc (pc1 := 99) (v := 107) (lv' := [(0, .ref 4), (1, .int 20), (2, .int 107), (3, .int 99)]) d_Tokens_init_96 rfl 2 rfl (by decide) (by decide) [1, 2, 0, 3] rfl ?_
  refine g_goto (tgt := 43) d_Tokens_init_99 (by decide) ?_
  refine g_iload_n (pc1 := 44) d_Tokens_init_43 rfl 2 rfl ?_
  refine g_strlen (pc1 := 49) rfl d_Tokens_init_44 d_Tokens_init_46 rfl (Nat.le_of_ble_eq_true rfl) ⟨Nat.le_of_ble_eq_true rfl, Nat.le_of_ble_eq_true rfl⟩ ?_
  refine g_icmp_ge (pc1 := 52) (tgt := 102) d_Tokens_init_49 (by decide) rfl (fun h => absurd h (by decide)) (fun _ => ?_)
  refine g_strchr (pc1 := 58) (v := 101) rfl d_Tokens_init_52 d_Tokens_init_54 d_Tokens_init_55 rfl 2 rfl (by decide) (by decide) (by decide +kernel) (Nat.le_of_ble_eq_true rfl) ⟨Nat.le_of_ble_eq_true rfl, Nat.le_of_ble_eq_true rfl⟩ ?_
  refine g_istore_n (pc1 := 59) (lv' := [(0, .ref 4), (1, .int 20), (2, .int 107), (3, .int 101)]) d_Tokens_init_58 rfl rfl (by decide) [1, 2, 3, 0] rfl ?_
  refine g_iload_n (pc1 := 60) d_Tokens_init_59 rfl 3 rfl ?_
  refine g_bipush (pc1 := 62) (v := 32) d_Tokens_init_60 rfl (by decide) ?_
  refine g_icmp_ne (pc1 := 65) (tgt := 71) d_Tokens_init_62 (by decide) rfl (fun _ => ?_) (fun h => absurd h (by decide))
  refine g_iload_n (pc1 := 72) d_Tokens_init_71 rfl 1 rfl ?_
  refine g_aload_n (pc1 := 73) d_Tokens_init_72 rfl 0 rfl ?_
  refine g_getr (pc1 := 76) d_Tokens_init_73 rfl ⟨_, fo_Tokens_9⟩ sh_4 (by decide) q368 ?_
  refine g_alen (pc1 := 77) (v := 21) d_Tokens_init_76 rfl sh_5 (by decide) (by decide) (by decide) (by decide) ?_
  refine g_icmp_ge (pc1 := 80) (tgt := 96) d_Tokens_init_77 (by decide) rfl (fun h => absurd h (by decide)) (fun _ => ?_)
  refine g_aload_n (pc1 := 81) d_Tokens_init_80 rfl 0 rfl ?_
  refine g_getr (pc1 := 84) d_Tokens_init_81 rfl ⟨_, fo_Tokens_9⟩ sh_4 (by decide) q368 ?_
  refine g_iload_n (pc1 := 85) d_Tokens_init_84 rfl 1 rfl ?_
  refine g_aload_n (pc1 := 86) d_Tokens_init_85 rfl 0 rfl ?_
  refine g_getr (pc1 := 89) d_Tokens_init_86 rfl ⟨_, fo_Tokens_9⟩ sh_4 (by decide) q368 ?_
  refine g_iload_n (pc1 := 90) d_Tokens_init_89 rfl 1 rfl ?_
  refine g_lald (pc1 := 91) d_Tokens_init_90 rfl sh_5 (by decide) (vin_lit (x := 20) (by decide)) ?_
  refine Wp.vall (y := 543011) (by rw [show (20 : Int32).toNatClampNeg = 20 from by decide]; exact q630) ?_
  refine g_iload_n (pc1 := 92) d_Tokens_init_91 rfl 3 rfl ?_
  refine g_callS (pc1 := 95) (E' := (0, 0, 9)) (As := [.long 543011, .int 101]) (rest := [.int 20, .ref 5]) d_Tokens_init_92 rfl mo_Tokens_37 ms_Tokens_withLetter (by decide) rfl rfl (Nat.le_of_ble_eq_true rfl) ⟨Nat.le_of_ble_eq_true rfl, Nat.le_of_ble_eq_true rfl⟩ rfl ?_
  refine t0_withLetter ?_
  dsimp only [psh]
  refine Wp.vall (y := 17376357) (by decide +kernel) ?_
  refine g_last (pc1 := 96) d_Tokens_init_95 rfl sh_5 (by decide) (vin_lit (x := 20) (by decide)) ?_
  rw [show ((20 : Int32).toNatClampNeg) = 20 from by decide]
  refine Wp.topL (fun L631 eL631 => ?_)
  have Z632 : ∀ j : Nat, 20 < j → L631 5 j = 0 := fun j hj => (rdL_ne eL631 (fun q => by omega)).trans (Z629 j (by omega))
  have q633 : L631 5 20 = 17376357 := rdL_eq eL631
  refine g_iinc (pc1 := 99) (v := 108) (lv' := [(0, .ref 4), (1, .int 20), (2, .int 108), (3, .int 101)]) d_Tokens_init_96 rfl 2 rfl (by decide) (by decide) [1, 2, 0, 3] rfl ?_
  refine g_goto (tgt := 43) d_Tokens_init_99 (by decide) ?_
  refine g_iload_n (pc1 := 44) d_Tokens_init_43 rfl 2 rfl ?_
  refine g_strlen (pc1 := 49) rfl d_Tokens_init_44 d_Tokens_init_46 rfl (Nat.le_of_ble_eq_true rfl) ⟨Nat.le_of_ble_eq_true rfl, Nat.le_of_ble_eq_true rfl⟩ ?_
  refine g_icmp_ge (pc1 := 52) (tgt := 102) d_Tokens_init_49 (by decide) rfl (fun _ => ?_) (fun h => absurd h (by decide))
  refine g_return rfl d_Tokens_init_102 rfl ?_
  exact hQ _ _ _ (by subst_vars; rfl) (by subst_vars; rfl) (by subst_vars; rfl) (Fz.wL (Fz.wL (Fz.wL (Fz.wL (Fz.wL (Fz.wL (Fz.wL (Fz.wL (Fz.wL (Fz.wL (Fz.wL (Fz.wL (Fz.wL (Fz.wL (Fz.wL (Fz.wL (Fz.wL (Fz.wL (Fz.wL (Fz.wL (Fz.wL (Fz.wL (Fz.wL (Fz.wL (Fz.wL (Fz.wL (Fz.wL (Fz.wL (Fz.wL (Fz.wL (Fz.wL (Fz.wL (Fz.wL (Fz.wL (Fz.wL (Fz.wL (Fz.wL (Fz.wL (Fz.wL (Fz.wL (Fz.wL (Fz.wL (Fz.wL (Fz.wL (Fz.wL (Fz.wL (Fz.wL (Fz.wL (Fz.wL (Fz.wL (Fz.wL (Fz.wL (Fz.wL (Fz.wL (Fz.wL (Fz.wL (Fz.wL (Fz.wL (Fz.wL (Fz.wL (Fz.wL (Fz.wL (Fz.wL (Fz.wL (Fz.wL (Fz.wL (Fz.wL (Fz.wL (Fz.wL (Fz.wL (Fz.wL (Fz.wL (Fz.wL (Fz.wL (Fz.wL (Fz.wL (Fz.wL (Fz.wL (Fz.wL (Fz.wL (Fz.wL (Fz.wL (Fz.wL (Fz.wL (Fz.wL (Fz.wL (Fz.wL (Fz.wL (Fz.wR (Fz.up (Fz.wR (Fz.up (Fz.wR (Fz.up (Fz.wR (Fz.up hF) (by decide) eR361)) (by decide) eR363)) (by decide) eR365)) (by decide) eR367) (by decide) eL370) (by decide) eL373) (by decide) eL376) (by decide) eL379) (by decide) eL382) (by decide) eL385) (by decide) eL388) (by decide) eL391) (by decide) eL394) (by decide) eL397) (by decide) eL400) (by decide) eL403) (by decide) eL406) (by decide) eL409) (by decide) eL412) (by decide) eL415) (by decide) eL418) (by decide) eL421) (by decide) eL424) (by decide) eL427) (by decide) eL430) (by decide) eL433) (by decide) eL436) (by decide) eL439) (by decide) eL442) (by decide) eL445) (by decide) eL448) (by decide) eL451) (by decide) eL454) (by decide) eL457) (by decide) eL460) (by decide) eL463) (by decide) eL466) (by decide) eL469) (by decide) eL472) (by decide) eL475) (by decide) eL478) (by decide) eL481) (by decide) eL484) (by decide) eL487) (by decide) eL490) (by decide) eL493) (by decide) eL496) (by decide) eL499) (by decide) eL502) (by decide) eL505) (by decide) eL508) (by decide) eL511) (by decide) eL514) (by decide) eL517) (by decide) eL520) (by decide) eL523) (by decide) eL526) (by decide) eL529) (by decide) eL532) (by decide) eL535) (by decide) eL538) (by decide) eL541) (by decide) eL544) (by decide) eL547) (by decide) eL550) (by decide) eL553) (by decide) eL556) (by decide) eL559) (by decide) eL562) (by decide) eL565) (by decide) eL568) (by decide) eL571) (by decide) eL574) (by decide) eL577) (by decide) eL580) (by decide) eL583) (by decide) eL586) (by decide) eL589) (by decide) eL592) (by decide) eL595) (by decide) eL598) (by decide) eL601) (by decide) eL604) (by decide) eL607) (by decide) eL610) (by decide) eL613) (by decide) eL616) (by decide) eL619) (by decide) eL622) (by decide) eL625) (by decide) eL628) (by decide) eL631)
def kM_Reader_init (M : gM) : gM := (kM_Tokens_init M)
def kL_Reader_init (L : gL) : gL := (kL_Tokens_init L)
def kR_Reader_init (R : gR) : gR := (uR (uR (uR (uR (kR_Tokens_init R) 3 0 (some 4)) 3 6 (some 9)) 3 7 (some 10)) 3 9 (some 11))
set_option maxHeartbeats 4000000 in
set_option maxRecDepth 20000 in
theorem t0_Reader_init {l : Launch} {M : gM} {L : gL} {R : gR} {Q : Option Value → gM → gL → gR → Prop} (hF : Fz 4 M L R) (hQ : ∀ (M' : gM) (L' : gL) (R' : gR), M' = kM_Reader_init M → L' = kL_Reader_init L → R' = kR_Reader_init R → Fz 12 M' L' R' → Q none M' L' R') : Tm l y_Reader_init (8, 1302, 12) 4 [.ref 3] M L R Q := by
  refine Tm.of (by decide) (Nat.le_of_ble_eq_true rfl) ?_
  show Wp l y_Reader_init (8, 1302, 12) 4 0 0 0 [(0, .ref 3)] [] M L R Q
  refine g_aload_n (pc1 := 1) d_Reader_init_0 rfl 0 rfl ?_
  refine g_objInit (pc1 := 4) d_Reader_init_1 rfl ml_Reader_3 mi_objectInit mc_objectInit (by decide) (Nat.le_of_ble_eq_true rfl) ?_
  refine g_aload_n (pc1 := 5) d_Reader_init_4 rfl 0 rfl ?_
  refine g_new (pc1 := 8) (T := T_Tokens) (ty := ty_Tokens) d_Reader_init_5 rfl rfl (fun w h => gtb_of (in_Tokens w h).1 (in_Tokens w h).2) tyk_Tokens (by decide) ck_Reader_9 cn_Tokens cz_Tokens sh_4 (fun i => (hF _ (Nat.le_refl _) i).1) (fun i => (hF _ (Nat.le_refl _) i).2.2) (Nat.le_of_ble_eq_true rfl) (Nat.le_of_ble_eq_true rfl) ?_
  refine g_dup (pc1 := 9) d_Reader_init_8 rfl rfl ?_
  refine g_callI (pc1 := 12) (E' := (4, 1224, 9)) (As := []) (rest := [.ref 4, .ref 3]) d_Reader_init_9 rfl mo_Reader_11 mi_Tokens_init rfl rfl (by decide) rfl rfl (Nat.le_of_ble_eq_true rfl) ⟨Nat.le_of_ble_eq_true rfl, Nat.le_of_ble_eq_true rfl⟩ rfl ?_
  refine t0_Tokens_init (Fz.up hF) (fun M634 L635 R636 eM634 eL635 eR636 F637 => ?_)
  dsimp only
  refine g_putF (pc1 := 15) (v := .ref 4) (M' := M634) (R' := uR R636 3 0 (some 4)) d_Reader_init_12 rfl rfl ff_Reader_12 (fun _ => po_2_0 _) sh_3 (by decide) (fun _ => fvl_R_self) (fun _ q h => fvl_R_ne q h) (fun _ _ _ h => ent_neR h) ?_
  refine Wp.topR (fun R638 eR638 => ?_)
  refine g_aload_n (pc1 := 16) d_Reader_init_15 rfl 0 rfl ?_
  refine g_bipush (pc1 := 18) (v := 21) d_Reader_init_16 rfl (by decide) ?_
  refine g_newJ (pc1 := 20) d_Reader_init_18 rfl ca_long sh_9 (fun i => ((Fz.wR F637 (by decide) eR638) _ (Nat.le_refl _) i).2.1) (by decide) (by decide) (by decide) (Nat.le_of_ble_eq_true rfl) (Nat.le_of_ble_eq_true rfl) ?_
  refine g_putF (pc1 := 23) (v := .ref 9) (M' := M634) (R' := uR R638 3 6 (some 9)) d_Reader_init_20 rfl rfl ff_Reader_18 (fun _ => po_2_6 _) sh_3 (by decide) (fun _ => fvl_R_self) (fun _ q h => fvl_R_ne q h) (fun _ _ _ h => ent_neR h) ?_
  refine Wp.topR (fun R639 eR639 => ?_)
  refine g_aload_n (pc1 := 24) d_Reader_init_23 rfl 0 rfl ?_
  refine g_bipush (pc1 := 26) (v := 21) d_Reader_init_24 rfl (by decide) ?_
  refine g_newI (pc1 := 28) d_Reader_init_26 rfl ca_int sh_10 (fun i => ((Fz.wR (Fz.up (Fz.wR F637 (by decide) eR638)) (by decide) eR639) _ (Nat.le_refl _) i).1) (by decide) (by decide) (by decide) (Nat.le_of_ble_eq_true rfl) (Nat.le_of_ble_eq_true rfl) ?_
  refine g_putF (pc1 := 31) (v := .ref 10) (M' := M634) (R' := uR R639 3 7 (some 10)) d_Reader_init_28 rfl rfl ff_Reader_22 (fun _ => po_2_7 _) sh_3 (by decide) (fun _ => fvl_R_self) (fun _ q h => fvl_R_ne q h) (fun _ _ _ h => ent_neR h) ?_
  refine Wp.topR (fun R640 eR640 => ?_)
  refine g_aload_n (pc1 := 32) d_Reader_init_31 rfl 0 rfl ?_
  refine g_bipush (pc1 := 34) (v := 32) d_Reader_init_32 rfl (by decide) ?_
  refine g_newI (pc1 := 36) d_Reader_init_34 rfl ca_int sh_11 (fun i => ((Fz.wR (Fz.up (Fz.wR (Fz.up (Fz.wR F637 (by decide) eR638)) (by decide) eR639)) (by decide) eR640) _ (Nat.le_refl _) i).1) (by decide) (by decide) (by decide) (Nat.le_of_ble_eq_true rfl) (Nat.le_of_ble_eq_true rfl) ?_
  refine g_putF (pc1 := 39) (v := .ref 11) (M' := M634) (R' := uR R640 3 9 (some 11)) d_Reader_init_36 rfl rfl ff_Reader_26 (fun _ => po_2_9 _) sh_3 (by decide) (fun _ => fvl_R_self) (fun _ q h => fvl_R_ne q h) (fun _ _ _ h => ent_neR h) ?_
  refine Wp.topR (fun R641 eR641 => ?_)
  refine g_return rfl d_Reader_init_39 rfl ?_
  exact hQ _ _ _ (by subst_vars; rfl) (by subst_vars; rfl) (by subst_vars; rfl) (Fz.wR (Fz.up (Fz.wR (Fz.up (Fz.wR (Fz.up (Fz.wR F637 (by decide) eR638)) (by decide) eR639)) (by decide) eR640)) (by decide) eR641)
def kM_Main_init (M : gM) : gM := (uM (kM_MenuSearch_init (kM_PotSearch_init (kM_Told_init (kM_Slots_init (kM_Past_init (kM_State_init 71 (kM_State_init 64 (kM_Land_init 38 (kM_Land_init 12 (kM_Reader_init (kM_Tape_init M))))))))))) 0 11 (-1))
def kL_Main_init (L : gL) : gL := (kL_MenuSearch_init (kL_PotSearch_init (kL_Told_init (kL_Slots_init (kL_Past_init (kL_State_init 71 (kL_State_init 64 (kL_Land_init 38 (kL_Land_init 12 (kL_Reader_init (kL_Tape_init L)))))))))))
def kR_Main_init (R : gR) : gR := (uR (kR_MenuSearch_init (uR (kR_PotSearch_init (uR (kR_Told_init (uR (kR_Slots_init (uR (kR_Past_init (uR (kR_State_init 71 (uR (kR_State_init 64 (uR (kR_Land_init 38 (uR (kR_Land_init 12 (uR (kR_Reader_init (uR (kR_Tape_init R) 0 0 (some 1))) 0 1 (some 3))) 0 2 (some 12))) 0 3 (some 38))) 0 4 (some 64))) 0 5 (some 71))) 0 6 (some 78))) 0 7 (some 360))) 0 8 (some 383))) 0 9 (some 391))) 0 10 (some 396))
set_option maxHeartbeats 4000000 in
set_option maxRecDepth 20000 in
theorem t0_Main_init {l : Launch} {M : gM} {L : gL} {R : gR} {Q : Option Value → gM → gL → gR → Prop} (hF : Fz 1 M L R) (hQ : ∀ (M' : gM) (L' : gL) (R' : gR), M' = kM_Main_init M → L' = kL_Main_init L → R' = kR_Main_init R → Fz 401 M' L' R' → Q none M' L' R') : Tm l y_Main_init (400, 9728, 401) 1 [.ref 0] M L R Q := by
  refine Tm.of (by decide) (Nat.le_of_ble_eq_true rfl) ?_
  show Wp l y_Main_init (400, 9728, 401) 1 0 0 0 [(0, .ref 0)] [] M L R Q
  refine g_aload_n (pc1 := 1) d_Main_init_0 rfl 0 rfl ?_
  refine g_objInit (pc1 := 4) d_Main_init_1 rfl ml_Main_3 mi_objectInit mc_objectInit (by decide) (Nat.le_of_ble_eq_true rfl) ?_
  refine g_aload_n (pc1 := 5) d_Main_init_4 rfl 0 rfl ?_
  refine g_new (pc1 := 8) (T := T_Tape) (ty := ty_Tape) d_Main_init_5 rfl rfl (fun w h => gtb_of (in_Tape w h).1 (in_Tape w h).2) tyk_Tape (by decide) ck_Main_9 cn_Tape cz_Tape sh_1 (fun i => (hF _ (Nat.le_refl _) i).1) (fun i => (hF _ (Nat.le_refl _) i).2.2) (Nat.le_of_ble_eq_true rfl) (Nat.le_of_ble_eq_true rfl) ?_
  refine g_dup (pc1 := 9) d_Main_init_8 rfl rfl ?_
  refine g_callI (pc1 := 12) (E' := (1, 2000, 3)) (As := []) (rest := [.ref 1, .ref 0]) d_Main_init_9 rfl mo_Main_11 mi_Tape_init rfl rfl (by decide) rfl rfl (Nat.le_of_ble_eq_true rfl) ⟨Nat.le_of_ble_eq_true rfl, Nat.le_of_ble_eq_true rfl⟩ rfl ?_
  refine t0_Tape_init (Fz.up hF) (fun M642 L643 R644 eM642 eL643 eR644 F645 => ?_)
  dsimp only
  refine g_putF (pc1 := 15) (v := .ref 1) (M' := M642) (R' := uR R644 0 0 (some 1)) d_Main_init_12 rfl rfl ff_Main_12 (fun _ => po_0_0 _) sh_0 (by decide) (fun _ => fvl_R_self) (fun _ q h => fvl_R_ne q h) (fun _ _ _ h => ent_neR h) ?_
  refine Wp.topR (fun R646 eR646 => ?_)
  refine g_aload_n (pc1 := 16) d_Main_init_15 rfl 0 rfl ?_
  refine g_new (pc1 := 19) (T := T_Reader) (ty := ty_Reader) d_Main_init_16 rfl rfl (fun w h => gtb_of (in_Reader w h).1 (in_Reader w h).2) tyk_Reader (by decide) ck_Main_16 cn_Reader cz_Reader sh_3 (fun i => ((Fz.wR F645 (by decide) eR646) _ (Nat.le_refl _) i).1) (fun i => ((Fz.wR F645 (by decide) eR646) _ (Nat.le_refl _) i).2.2) (Nat.le_of_ble_eq_true rfl) (Nat.le_of_ble_eq_true rfl) ?_
  refine g_dup (pc1 := 20) d_Main_init_19 rfl rfl ?_
  refine g_callI (pc1 := 23) (E' := (8, 1302, 12)) (As := []) (rest := [.ref 3, .ref 0]) d_Main_init_20 rfl mo_Main_18 mi_Reader_init rfl rfl (by decide) rfl rfl (Nat.le_of_ble_eq_true rfl) ⟨Nat.le_of_ble_eq_true rfl, Nat.le_of_ble_eq_true rfl⟩ rfl ?_
  refine t0_Reader_init (Fz.up (Fz.wR F645 (by decide) eR646)) (fun M647 L648 R649 eM647 eL648 eR649 F650 => ?_)
  dsimp only
  refine g_putF (pc1 := 26) (v := .ref 3) (M' := M647) (R' := uR R649 0 1 (some 3)) d_Main_init_23 rfl rfl ff_Main_19 (fun _ => po_0_1 _) sh_0 (by decide) (fun _ => fvl_R_self) (fun _ q h => fvl_R_ne q h) (fun _ _ _ h => ent_neR h) ?_
  refine Wp.topR (fun R651 eR651 => ?_)
  refine g_aload_n (pc1 := 27) d_Main_init_26 rfl 0 rfl ?_
  refine g_new (pc1 := 30) (T := T_Land) (ty := ty_Land) d_Main_init_27 rfl rfl (fun w h => gtb_of (in_Land w h).1 (in_Land w h).2) tyk_Land (by decide) ck_Main_23 cn_Land cz_Land (shLa_0 (by decide : 12 ∈ lLa)) (fun i => ((Fz.wR F650 (by decide) eR651) _ (Nat.le_refl _) i).1) (fun i => ((Fz.wR F650 (by decide) eR651) _ (Nat.le_refl _) i).2.2) (Nat.le_of_ble_eq_true rfl) (Nat.le_of_ble_eq_true rfl) ?_
  refine g_dup (pc1 := 31) d_Main_init_30 rfl rfl ?_
  refine g_callI (pc1 := 34) (E' := (25, 1864, 38)) (As := []) (rest := [.ref 12, .ref 0]) d_Main_init_31 rfl mo_Main_25 mi_Land_init rfl rfl (by decide) rfl rfl (Nat.le_of_ble_eq_true rfl) ⟨Nat.le_of_ble_eq_true rfl, Nat.le_of_ble_eq_true rfl⟩ rfl ?_
  refine t0_Land_init 12 (by decide : 12 ∈ lLa) (Fz.up (Fz.wR F650 (by decide) eR651)) (fun M652 L653 R654 eM652 eL653 eR654 F655 => ?_)
  dsimp only
  refine g_putr (pc1 := 37) d_Main_init_34 rfl fo_Main_26 (po_0_2) sh_0 (by decide) ?_
  refine Wp.topR (fun R656 eR656 => ?_)
  refine g_aload_n (pc1 := 38) d_Main_init_37 rfl 0 rfl ?_
  refine g_new (pc1 := 41) (T := T_Land) (ty := ty_Land) d_Main_init_38 rfl rfl (fun w h => gtb_of (in_Land w h).1 (in_Land w h).2) tyk_Land (by decide) ck_Main_23 cn_Land cz_Land (shLa_0 (by decide : 38 ∈ lLa)) (fun i => ((Fz.wR F655 (by decide) eR656) _ (Nat.le_refl _) i).1) (fun i => ((Fz.wR F655 (by decide) eR656) _ (Nat.le_refl _) i).2.2) (Nat.le_of_ble_eq_true rfl) (Nat.le_of_ble_eq_true rfl) ?_
  refine g_dup (pc1 := 42) d_Main_init_41 rfl rfl ?_
  refine g_callI (pc1 := 45) (E' := (25, 1864, 64)) (As := []) (rest := [.ref 38, .ref 0]) d_Main_init_42 rfl mo_Main_25 mi_Land_init rfl rfl (by decide) rfl rfl (Nat.le_of_ble_eq_true rfl) ⟨Nat.le_of_ble_eq_true rfl, Nat.le_of_ble_eq_true rfl⟩ rfl ?_
  refine t0_Land_init 38 (by decide : 38 ∈ lLa) (Fz.up (Fz.wR F655 (by decide) eR656)) (fun M657 L658 R659 eM657 eL658 eR659 F660 => ?_)
  dsimp only
  refine g_putr (pc1 := 48) d_Main_init_45 rfl fo_Main_30 (po_0_3) sh_0 (by decide) ?_
  refine Wp.topR (fun R661 eR661 => ?_)
  refine g_aload_n (pc1 := 49) d_Main_init_48 rfl 0 rfl ?_
  refine g_new (pc1 := 52) (T := T_State) (ty := ty_State) d_Main_init_49 rfl rfl (fun w h => gtb_of (in_State w h).1 (in_State w h).2) tyk_State (by decide) ck_Main_33 cn_State cz_State (shSt_0 (by decide : 64 ∈ lSt)) (fun i => ((Fz.wR F660 (by decide) eR661) _ (Nat.le_refl _) i).1) (fun i => ((Fz.wR F660 (by decide) eR661) _ (Nat.le_refl _) i).2.2) (Nat.le_of_ble_eq_true rfl) (Nat.le_of_ble_eq_true rfl) ?_
  refine g_dup (pc1 := 53) d_Main_init_52 rfl rfl ?_
  refine g_callI (pc1 := 56) (E' := (6, 34, 71)) (As := []) (rest := [.ref 64, .ref 0]) d_Main_init_53 rfl mo_Main_35 mi_State_init rfl rfl (by decide) rfl rfl (Nat.le_of_ble_eq_true rfl) ⟨Nat.le_of_ble_eq_true rfl, Nat.le_of_ble_eq_true rfl⟩ rfl ?_
  refine t0_State_init 64 (by decide : 64 ∈ lSt) (Fz.up (Fz.wR F660 (by decide) eR661)) (fun M662 L663 R664 eM662 eL663 eR664 F665 => ?_)
  dsimp only
  refine g_putF (pc1 := 59) (v := .ref 64) (M' := M662) (R' := uR R664 0 4 (some 64)) d_Main_init_56 rfl rfl ff_Main_36 (fun _ => po_0_4 _) sh_0 (by decide) (fun _ => fvl_R_self) (fun _ q h => fvl_R_ne q h) (fun _ _ _ h => ent_neR h) ?_
  refine Wp.topR (fun R666 eR666 => ?_)
  refine g_aload_n (pc1 := 60) d_Main_init_59 rfl 0 rfl ?_
  refine g_new (pc1 := 63) (T := T_State) (ty := ty_State) d_Main_init_60 rfl rfl (fun w h => gtb_of (in_State w h).1 (in_State w h).2) tyk_State (by decide) ck_Main_33 cn_State cz_State (shSt_0 (by decide : 71 ∈ lSt)) (fun i => ((Fz.wR F665 (by decide) eR666) _ (Nat.le_refl _) i).1) (fun i => ((Fz.wR F665 (by decide) eR666) _ (Nat.le_refl _) i).2.2) (Nat.le_of_ble_eq_true rfl) (Nat.le_of_ble_eq_true rfl) ?_
  refine g_dup (pc1 := 64) d_Main_init_63 rfl rfl ?_
  refine g_callI (pc1 := 67) (E' := (6, 34, 78)) (As := []) (rest := [.ref 71, .ref 0]) d_Main_init_64 rfl mo_Main_35 mi_State_init rfl rfl (by decide) rfl rfl (Nat.le_of_ble_eq_true rfl) ⟨Nat.le_of_ble_eq_true rfl, Nat.le_of_ble_eq_true rfl⟩ rfl ?_
  refine t0_State_init 71 (by decide : 71 ∈ lSt) (Fz.up (Fz.wR F665 (by decide) eR666)) (fun M667 L668 R669 eM667 eL668 eR669 F670 => ?_)
  dsimp only
  refine g_putF (pc1 := 70) (v := .ref 71) (M' := M667) (R' := uR R669 0 5 (some 71)) d_Main_init_67 rfl rfl ff_Main_40 (fun _ => po_0_5 _) sh_0 (by decide) (fun _ => fvl_R_self) (fun _ q h => fvl_R_ne q h) (fun _ _ _ h => ent_neR h) ?_
  refine Wp.topR (fun R671 eR671 => ?_)
  refine g_aload_n (pc1 := 71) d_Main_init_70 rfl 0 rfl ?_
  refine g_new (pc1 := 74) (T := T_Past) (ty := ty_Past) d_Main_init_71 rfl rfl (fun w h => gtb_of (in_Past w h).1 (in_Past w h).2) tyk_Past (by decide) ck_Main_43 cn_Past cz_Past sh_78 (fun i => ((Fz.wR F670 (by decide) eR671) _ (Nat.le_refl _) i).1) (fun i => ((Fz.wR F670 (by decide) eR671) _ (Nat.le_refl _) i).2.2) (Nat.le_of_ble_eq_true rfl) (Nat.le_of_ble_eq_true rfl) ?_
  refine g_dup (pc1 := 75) d_Main_init_74 rfl rfl ?_
  refine g_callI (pc1 := 78) (E' := (281, 1800, 360)) (As := []) (rest := [.ref 78, .ref 0]) d_Main_init_75 rfl mo_Main_45 mi_Past_init rfl rfl (by decide) rfl rfl (Nat.le_of_ble_eq_true rfl) ⟨Nat.le_of_ble_eq_true rfl, Nat.le_of_ble_eq_true rfl⟩ rfl ?_
  refine t0_Past_init (Fz.up (Fz.wR F670 (by decide) eR671)) (fun M672 L673 R674 eM672 eL673 eR674 F675 => ?_)
  dsimp only
  refine g_putF (pc1 := 81) (v := .ref 78) (M' := M672) (R' := uR R674 0 6 (some 78)) d_Main_init_78 rfl rfl ff_Main_46 (fun _ => po_0_6 _) sh_0 (by decide) (fun _ => fvl_R_self) (fun _ q h => fvl_R_ne q h) (fun _ _ _ h => ent_neR h) ?_
  refine Wp.topR (fun R676 eR676 => ?_)
  refine g_aload_n (pc1 := 82) d_Main_init_81 rfl 0 rfl ?_
  refine g_new (pc1 := 85) (T := T_Slots) (ty := ty_Slots) d_Main_init_82 rfl rfl (fun w h => gtb_of (in_Slots w h).1 (in_Slots w h).2) tyk_Slots (by decide) ck_Main_50 cn_Slots cz_Slots sh_360 (fun i => ((Fz.wR F675 (by decide) eR676) _ (Nat.le_refl _) i).1) (fun i => ((Fz.wR F675 (by decide) eR676) _ (Nat.le_refl _) i).2.2) (Nat.le_of_ble_eq_true rfl) (Nat.le_of_ble_eq_true rfl) ?_
  refine g_dup (pc1 := 86) d_Main_init_85 rfl rfl ?_
  refine g_callI (pc1 := 89) (E' := (22, 135, 383)) (As := []) (rest := [.ref 360, .ref 0]) d_Main_init_86 rfl mo_Main_52 mi_Slots_init rfl rfl (by decide) rfl rfl (Nat.le_of_ble_eq_true rfl) ⟨Nat.le_of_ble_eq_true rfl, Nat.le_of_ble_eq_true rfl⟩ rfl ?_
  refine t0_Slots_init (Fz.up (Fz.wR F675 (by decide) eR676)) (fun M677 L678 R679 eM677 eL678 eR679 F680 => ?_)
  dsimp only
  refine g_putF (pc1 := 92) (v := .ref 360) (M' := M677) (R' := uR R679 0 7 (some 360)) d_Main_init_89 rfl rfl ff_Main_53 (fun _ => po_0_7 _) sh_0 (by decide) (fun _ => fvl_R_self) (fun _ q h => fvl_R_ne q h) (fun _ _ _ h => ent_neR h) ?_
  refine Wp.topR (fun R681 eR681 => ?_)
  refine g_aload_n (pc1 := 93) d_Main_init_92 rfl 0 rfl ?_
  refine g_new (pc1 := 96) (T := T_Told) (ty := ty_Told) d_Main_init_93 rfl rfl (fun w h => gtb_of (in_Told w h).1 (in_Told w h).2) tyk_Told (by decide) ck_Main_57 cn_Told cz_Told sh_383 (fun i => ((Fz.wR F680 (by decide) eR681) _ (Nat.le_refl _) i).1) (fun i => ((Fz.wR F680 (by decide) eR681) _ (Nat.le_refl _) i).2.2) (Nat.le_of_ble_eq_true rfl) (Nat.le_of_ble_eq_true rfl) ?_
  refine g_dup (pc1 := 97) d_Main_init_96 rfl rfl ?_
  refine g_callI (pc1 := 100) (E' := (7, 485, 391)) (As := []) (rest := [.ref 383, .ref 0]) d_Main_init_97 rfl mo_Main_59 mi_Told_init rfl rfl (by decide) rfl rfl (Nat.le_of_ble_eq_true rfl) ⟨Nat.le_of_ble_eq_true rfl, Nat.le_of_ble_eq_true rfl⟩ rfl ?_
  refine t0_Told_init (Fz.up (Fz.wR F680 (by decide) eR681)) (fun M682 L683 R684 eM682 eL683 eR684 F685 => ?_)
  dsimp only
  refine g_putF (pc1 := 103) (v := .ref 383) (M' := M682) (R' := uR R684 0 8 (some 383)) d_Main_init_100 rfl rfl ff_Main_60 (fun _ => po_0_8 _) sh_0 (by decide) (fun _ => fvl_R_self) (fun _ q h => fvl_R_ne q h) (fun _ _ _ h => ent_neR h) ?_
  refine Wp.topR (fun R686 eR686 => ?_)
  refine g_aload_n (pc1 := 104) d_Main_init_103 rfl 0 rfl ?_
  refine g_new (pc1 := 107) (T := T_PotSearch) (ty := ty_PotSearch) d_Main_init_104 rfl rfl (fun w h => gtb_of (in_PotSearch w h).1 (in_PotSearch w h).2) tyk_PotSearch (by decide) ck_Main_64 cn_PotSearch cz_PotSearch sh_391 (fun i => ((Fz.wR F685 (by decide) eR686) _ (Nat.le_refl _) i).1) (fun i => ((Fz.wR F685 (by decide) eR686) _ (Nat.le_refl _) i).2.2) (Nat.le_of_ble_eq_true rfl) (Nat.le_of_ble_eq_true rfl) ?_
  refine g_dup (pc1 := 108) d_Main_init_107 rfl rfl ?_
  refine g_callI (pc1 := 111) (E' := (4, 18, 396)) (As := []) (rest := [.ref 391, .ref 0]) d_Main_init_108 rfl mo_Main_66 mi_PotSearch_init rfl rfl (by decide) rfl rfl (Nat.le_of_ble_eq_true rfl) ⟨Nat.le_of_ble_eq_true rfl, Nat.le_of_ble_eq_true rfl⟩ rfl ?_
  refine t0_PotSearch_init (Fz.up (Fz.wR F685 (by decide) eR686)) (fun M687 L688 R689 eM687 eL688 eR689 F690 => ?_)
  dsimp only
  refine g_putF (pc1 := 114) (v := .ref 391) (M' := M687) (R' := uR R689 0 9 (some 391)) d_Main_init_111 rfl rfl ff_Main_67 (fun _ => po_0_9 _) sh_0 (by decide) (fun _ => fvl_R_self) (fun _ q h => fvl_R_ne q h) (fun _ _ _ h => ent_neR h) ?_
  refine Wp.topR (fun R691 eR691 => ?_)
  refine g_aload_n (pc1 := 115) d_Main_init_114 rfl 0 rfl ?_
  refine g_new (pc1 := 118) (T := T_MenuSearch) (ty := ty_MenuSearch) d_Main_init_115 rfl rfl (fun w h => gtb_of (in_MenuSearch w h).1 (in_MenuSearch w h).2) tyk_MenuSearch (by decide) ck_Main_71 cn_MenuSearch cz_MenuSearch sh_396 (fun i => ((Fz.wR F690 (by decide) eR691) _ (Nat.le_refl _) i).1) (fun i => ((Fz.wR F690 (by decide) eR691) _ (Nat.le_refl _) i).2.2) (Nat.le_of_ble_eq_true rfl) (Nat.le_of_ble_eq_true rfl) ?_
  refine g_dup (pc1 := 119) d_Main_init_118 rfl rfl ?_
  refine g_callI (pc1 := 122) (E' := (4, 92, 401)) (As := []) (rest := [.ref 396, .ref 0]) d_Main_init_119 rfl mo_Main_73 mi_MenuSearch_init rfl rfl (by decide) rfl rfl (Nat.le_of_ble_eq_true rfl) ⟨Nat.le_of_ble_eq_true rfl, Nat.le_of_ble_eq_true rfl⟩ rfl ?_
  refine t0_MenuSearch_init (Fz.up (Fz.wR F690 (by decide) eR691)) (fun M692 L693 R694 eM692 eL693 eR694 F695 => ?_)
  dsimp only
  refine g_putF (pc1 := 125) (v := .ref 396) (M' := M692) (R' := uR R694 0 10 (some 396)) d_Main_init_122 rfl rfl ff_Main_74 (fun _ => po_0_10 _) sh_0 (by decide) (fun _ => fvl_R_self) (fun _ q h => fvl_R_ne q h) (fun _ _ _ h => ent_neR h) ?_
  refine Wp.topR (fun R696 eR696 => ?_)
  refine g_aload_n (pc1 := 126) d_Main_init_125 rfl 0 rfl ?_
  refine g_iconst (pc1 := 127) (v := (-1)) d_Main_init_126 rfl (by decide) ?_
  refine g_puti (pc1 := 130) d_Main_init_127 rfl fo_Main_78 (po_0_11 _) sh_0 (by decide) ?_
  refine Wp.topM (fun M697 eM697 => ?_)
  refine g_return rfl d_Main_init_130 rfl ?_
  exact hQ _ _ _ (by subst_vars; rfl) (by subst_vars; rfl) (by subst_vars; rfl) (Fz.wM (Fz.wR F695 (by decide) eR696) (by decide) eM697)
end MG2x3
