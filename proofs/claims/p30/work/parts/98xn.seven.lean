/-! pots as ways: seven amounts of a food -/
section PAR58
def q7 : Nat → Nat
  | 0 => 1
  | k + 1 => q7 k * 7
def d7 (w k : Nat) : Nat := w / q7 k % 7
/-- how many, of the k last foods -/
def sd7 : Nat → Nat → Nat
  | 0, _ => 0
  | k + 1, w => sd7 k w + d7 w k
theorem q7_pos : ∀ k, 0 < q7 k
  | 0 => Nat.one_pos
  | k + 1 => Nat.mul_pos (q7_pos k) (by decide)
theorem q7_add (a : Nat) : ∀ b, q7 (a + b) = q7 a * q7 b
  | 0 => (Nat.mul_one _).symm
  | b + 1 => by
    show q7 (a + b) * 7 = q7 a * (q7 b * 7)
    rw [q7_add a b, Nat.mul_assoc]
theorem d7_6 (w k : Nat) : d7 w k ≤ 6 := by
  have := Nat.mod_lt (w / q7 k) (show 0 < 7 by decide)
  unfold d7
  omega
theorem q7_mod (w k : Nat) : w % q7 (k + 1) = w % q7 k + q7 k * d7 w k := Nat.mod_mul
theorem d7_up {k B t : Nat} (ht : t < q7 k) (i : Nat) : d7 (q7 k * B + t) (k + i) = d7 B i := by
  unfold d7
  rw [q7_add, ← Nat.div_div_eq_div_mul, Nat.mul_add_div (q7_pos k), Nat.div_eq_of_lt ht, Nat.add_zero]
theorem d7_lo {k B t j : Nat} (hj : j < k) : d7 (q7 k * B + t) j = d7 t j := by
  unfold d7
  obtain ⟨m, rfl⟩ : ∃ m, k = j + (m + 1) := ⟨k - j - 1, by omega⟩
  rw [q7_add, Nat.mul_assoc, Nat.mul_add_div (q7_pos j)]
  show (q7 m * 7 * B + t / q7 j) % 7 = _
  rw [Nat.mul_right_comm, Nat.mul_comm (q7 m * B) 7, Nat.mul_add_mod]
theorem sd7_lo {k B t : Nat} : ∀ j, j ≤ k → sd7 j (q7 k * B + t) = sd7 j t
  | 0, _ => rfl
  | j + 1, h => by
    show sd7 j (q7 k * B + t) + d7 (q7 k * B + t) j = sd7 j t + d7 t j
    rw [sd7_lo j (by omega), d7_lo (by omega)]
theorem sd7_up {k B t : Nat} (ht : t < q7 k) : ∀ i, sd7 (k + i) (q7 k * B + t) = sd7 k t + sd7 i B
  | 0 => by rw [Nat.add_zero, sd7_lo k (Nat.le_refl _)]; rfl
  | i + 1 => by
    show sd7 (k + i) (q7 k * B + t) + d7 (q7 k * B + t) (k + i) = sd7 k t + (sd7 i B + d7 B i)
    rw [sd7_up ht i, d7_up ht, Nat.add_assoc]
theorem sd7_c {w w' : Nat} : ∀ k, (∀ j, j < k → d7 w j = d7 w' j) → sd7 k w = sd7 k w'
  | 0, _ => rfl
  | k + 1, h => by
    show sd7 k w + d7 w k = sd7 k w' + d7 w' k
    rw [sd7_c k (fun j hj => h j (by omega)), h k (by omega)]
theorem sd7_zero {w : Nat} : ∀ k, sd7 k w = 0 → w % q7 k = 0
  | 0, _ => Nat.mod_one w
  | k + 1, h => by
    have h' : sd7 k w + d7 w k = 0 := h
    have h1 := sd7_zero k (by omega : sd7 k w = 0)
    rw [q7_mod, h1, show d7 w k = 0 by omega, Nat.mul_zero]
theorem z7 (j : Nat) : d7 0 j = 0 := by unfold d7; rw [Nat.zero_div]
theorem sd7_0 : ∀ k, sd7 k 0 = 0
  | 0 => rfl
  | k + 1 => by
    show sd7 k 0 + d7 0 k = 0
    rw [sd7_0 k, z7]
/-- as much as can be of each food, from the k-th last on, m in all -/
def gr7 (st : Nat → Nat) : Nat → Nat → Nat
  | 0, _ => 0
  | k + 1, m => q7 k * min m (st k) + gr7 st k (m - min m (st k))
def gd7 (st : Nat → Nat) : Nat → Nat → Nat → Nat
  | 0, _, _ => 0
  | k + 1, m, j => if j = k then min m (st k) else gd7 st k (m - min m (st k)) j
section GR
variable {st : Nat → Nat}
theorem gr7_lt : ∀ k m, m ≤ 6 → gr7 st k m < q7 k
  | 0, _, _ => Nat.one_pos
  | k + 1, m, h => by
    have h1 := gr7_lt k (m - min m (st k)) (by omega)
    have h2 : q7 k * min m (st k) ≤ q7 k * 6 := Nat.mul_le_mul_left _ (by omega)
    show q7 k * min m (st k) + gr7 st k _ < q7 k * 7
    omega
theorem gr7_d : ∀ k m j, m ≤ 6 → j < k → d7 (gr7 st k m) j = gd7 st k m j
  | 0, _, _, _, h => by omega
  | k + 1, m, j, hm, hj => by
    show d7 (q7 k * min m (st k) + gr7 st k (m - min m (st k))) j = if j = k then min m (st k) else gd7 st k (m - min m (st k)) j
    by_cases w : j = k
    · rw [if_pos w, w]
      have := d7_up (B := min m (st k)) (gr7_lt (st := st) k (m - min m (st k)) (by omega)) 0
      rw [Nat.add_zero] at this
      rw [this]
      show min m (st k) / 1 % 7 = _
      omega
    · rw [if_neg w, d7_lo (by omega)]
      exact gr7_d k _ j (by omega) (by omega)
theorem gd7_st : ∀ k m j, j < k → gd7 st k m j ≤ st j
  | 0, _, _, h => by omega
  | k + 1, m, j, hj => by
    show (if j = k then min m (st k) else gd7 st k (m - min m (st k)) j) ≤ st j
    by_cases w : j = k
    · rw [if_pos w, w]; omega
    · rw [if_neg w]; exact gd7_st k _ j (by omega)
theorem gr7_sd : ∀ k m, m ≤ 6 → sd7 k (gr7 st k m) ≤ m
  | 0, _, _ => Nat.zero_le _
  | k + 1, m, hm => by
    have h1 := gr7_lt (st := st) k (m - min m (st k)) (by omega)
    have h2 := gr7_sd k (m - min m (st k)) (by omega)
    show sd7 (k + 1) (q7 k * min m (st k) + gr7 st k (m - min m (st k))) ≤ m
    rw [sd7_up h1 1]
    have : sd7 1 (min m (st k)) = min m (st k) := by
      show 0 + min m (st k) / 1 % 7 = _
      omega
    omega
theorem gr7_max {t : Nat} : ∀ k m, (∀ j, j < k → d7 t j ≤ st j) → sd7 k t ≤ m → t % q7 k ≤ gr7 st k m
  | 0, _, _, _ => by rw [show q7 0 = 1 from rfl, Nat.mod_one]; exact Nat.zero_le _
  | k + 1, m, h, hs => by
    have hs' : sd7 k t + d7 t k ≤ m := hs
    have hk := h k (by omega)
    rw [q7_mod]
    show _ ≤ q7 k * min m (st k) + gr7 st k (m - min m (st k))
    by_cases w : d7 t k = min m (st k)
    · have h1 := gr7_max k (m - min m (st k)) (fun j hj => h j (by omega)) (by omega)
      rw [w]
      omega
    · have h2 : q7 k * (d7 t k + 1) ≤ q7 k * min m (st k) := Nat.mul_le_mul_left _ (by omega)
      have h3 := Nat.mod_lt t (q7_pos k)
      rw [Nat.mul_add] at h2
      omega
/-- a pot that can be, of what is in store (or none) -/
def pot7 (st : Nat → Nat) (w : Nat) : Prop := (∀ j, j < 6 → d7 w j ≤ st j) ∧ sd7 6 w ≤ 6
def pa7 (st : Nat → Nat) (w : Nat) : Nat → Bool
  | 0 => decide (sd7 6 w ≤ 6)
  | k + 1 => decide (d7 w k ≤ st k) && pa7 st w k
theorem pa7_e {w : Nat} : ∀ k, pa7 st w k = true ↔ ((∀ j, j < k → d7 w j ≤ st j) ∧ sd7 6 w ≤ 6)
  | 0 => by
    show decide (sd7 6 w ≤ 6) = true ↔ _
    rw [decide_eq_true_eq]
    exact ⟨fun h => ⟨fun j hj => absurd hj (Nat.not_lt_zero _), h⟩, fun h => h.2⟩
  | k + 1 => by
    show (decide (d7 w k ≤ st k) && pa7 st w k) = true ↔ _
    rw [Bool.and_eq_true, decide_eq_true_eq, pa7_e k]
    constructor
    · intro h
      refine ⟨fun j hj => ?_, h.2.2⟩
      by_cases z : j = k
      · rw [z]; exact h.1
      · exact h.2.1 j (by omega)
    · intro h
      exact ⟨h.1 k (by omega), fun j hj => h.1 j (by omega), h.2⟩
def pb7 (st : Nat → Nat) (w : Nat) : Bool := pa7 st w 6
theorem pb7_e {w : Nat} : pb7 st w = true ↔ pot7 st w := pa7_e 6
theorem top7 : pot7 st (gr7 st 6 6) ∧ gr7 st 6 6 < q7 6 ∧ ∀ w, gr7 st 6 6 < w → w < q7 6 → ¬ pot7 st w := by
  refine ⟨⟨fun j hj => ?_, gr7_sd 6 6 (by decide)⟩, gr7_lt 6 6 (by decide), fun w h1 h2 h3 => ?_⟩
  · rw [gr7_d 6 6 j (by decide) hj]; exact gd7_st 6 6 j hj
  · have := gr7_max 6 6 h3.1 h3.2
    rw [Nat.mod_eq_of_lt h2] at this
    omega
section STP
variable {W k : Nat}
theorem sd7_dec {B : Nat} (hB : 1 ≤ B % 7) : ∀ i, sd7 (i + 1) (B - 1) + 1 = sd7 (i + 1) B
  | 0 => by
    show 0 + (B - 1) / 1 % 7 + 1 = 0 + B / 1 % 7
    omega
  | i + 1 => by
    have h1 := sd7_dec hB i
    have h2 : d7 (B - 1) (i + 1) = d7 B (i + 1) := by
      unfold d7
      show (B - 1) / (q7 i * 7) % 7 = B / (q7 i * 7) % 7
      rw [Nat.mul_comm, ← Nat.div_div_eq_div_mul, ← Nat.div_div_eq_div_mul, show (B - 1) / 7 = B / 7 by omega]
    show sd7 (i + 1) (B - 1) + d7 (B - 1) (i + 1) + 1 = sd7 (i + 1) B + d7 B (i + 1)
    rw [h2]
    omega
/-- one less of the k-th last food, the first of which there is some, and as much as can be of those behind -/
theorem step7 (hW : W < q7 6) (hp : pot7 st W) (hk : k < 6) (hz : W % q7 k = 0) (hd : 1 ≤ d7 W k) : ∃ W', W' = q7 k * (W / q7 k - 1) + gr7 st k (7 - sd7 6 W) ∧ 1 ≤ sd7 6 W ∧ W' < W ∧ pot7 st W' ∧ (∀ w, W' < w → w < W → ¬ pot7 st w) ∧ (∀ i, k + i < 6 → d7 W' (k + i) = if i = 0 then d7 W k - 1 else d7 W (k + i)) ∧ ∀ j, j < k → d7 W' j = gd7 st k (7 - sd7 6 W) j := by
  have hB : W / q7 k % 7 = d7 W k := rfl
  have e0 := Nat.div_add_mod W (q7 k)
  have pk := q7_pos k
  generalize hBB : W / q7 k = B at hB e0
  rw [hz, Nat.add_zero] at e0
  obtain ⟨m, hm⟩ : ∃ m, 6 = k + (m + 1) := ⟨6 - k - 1, by omega⟩
  have s1 : sd7 6 W = sd7 (m + 1) B := by
    have := sd7_up (B := B) (t := 0) pk (m + 1)
    rw [Nat.add_zero, e0, sd7_0, Nat.zero_add, ← hm] at this
    exact this
  have s2 := sd7_dec (B := B) (by omega) m
  have s3 := hp.2
  have l6 : 7 - sd7 6 W ≤ 6 := by omega
  have gl := gr7_lt (st := st) k (7 - sd7 6 W) l6
  have up : ∀ i, d7 (q7 k * (B - 1) + gr7 st k (7 - sd7 6 W)) (k + i) = if i = 0 then d7 W k - 1 else d7 W (k + i) := fun i => by
    rw [d7_up gl]
    have u2 : d7 W (k + i) = d7 B i := by
      have := d7_up (B := B) (t := 0) pk i
      rw [Nat.add_zero, e0] at this
      exact this
    by_cases z : i = 0
    · rw [if_pos z, z, ← hB]
      show (B - 1) / 1 % 7 = B % 7 - 1
      omega
    · rw [if_neg z, u2]
      obtain ⟨x, rfl⟩ : ∃ x, i = x + 1 := ⟨i - 1, by omega⟩
      unfold d7
      show (B - 1) / (q7 x * 7) % 7 = B / (q7 x * 7) % 7
      rw [Nat.mul_comm, ← Nat.div_div_eq_div_mul, ← Nat.div_div_eq_div_mul, show (B - 1) / 7 = B / 7 by omega]
  have lo : ∀ j, j < k → d7 (q7 k * (B - 1) + gr7 st k (7 - sd7 6 W)) j = gd7 st k (7 - sd7 6 W) j := fun j hj => by
    rw [d7_lo hj, gr7_d k _ j l6 hj]
  have hB1 : q7 k * B = q7 k * (B - 1) + q7 k := by
    rw [← Nat.mul_succ]
    exact congrArg (q7 k * ·) (by omega)
  refine ⟨_, rfl, by omega, by omega, ⟨fun j hj => ?_, ?_⟩, fun w h1 h2 h3 => ?_, fun i _ => up i, lo⟩
  · by_cases z : j < k
    · rw [lo j z]; exact gd7_st k _ j z
    · obtain ⟨i, rfl⟩ : ∃ i, j = k + i := ⟨j - k, by omega⟩
      rw [up i]
      have h0 := hp.1 (k + i) hj
      by_cases y : i = 0
      · rw [if_pos y]
        rw [y, Nat.add_zero] at h0 ⊢
        omega
      · rw [if_neg y]; exact h0
  · have h1 := gr7_sd (st := st) k (7 - sd7 6 W) l6
    have h2 := sd7_up (B := B - 1) gl (m + 1)
    rw [← hm] at h2
    omega
  · have w1 : w / q7 k = B - 1 := by
      have a : B - 1 ≤ w / q7 k := (Nat.le_div_iff_mul_le pk).mpr (by rw [Nat.mul_comm]; omega)
      have b : w / q7 k < B := Nat.div_lt_of_lt_mul (by omega)
      omega
    have w2 := Nat.div_add_mod w (q7 k)
    have w3 := Nat.mod_lt w pk
    rw [w1] at w2
    have w4 := sd7_up (B := B - 1) w3 (m + 1)
    rw [← hm, w2] at w4
    have w5 := h3.2
    have w6 : w % q7 k % q7 k ≤ gr7 st k (7 - sd7 6 W) := gr7_max (t := w % q7 k) k _ (fun j hj => by
      have := h3.1 j (by omega)
      rw [← w2, d7_lo hj] at this
      exact this) (by omega)
    rw [Nat.mod_mod] at w6
    omega
end STP
end GR
/-- how many below n hold -/
def cR7 (P : Nat → Bool) : Nat → Nat
  | 0 => 0
  | n + 1 => if P n = true then cR7 P n + 1 else cR7 P n
theorem cR7_mono {P : Nat → Bool} : ∀ d n, cR7 P n ≤ cR7 P (n + d)
  | 0, _ => Nat.le_refl _
  | d + 1, n => by
    have := cR7_mono (P := P) d n
    show cR7 P n ≤ (if P (n + d) = true then cR7 P (n + d) + 1 else cR7 P (n + d))
    by_cases w : P (n + d) = true
    · rw [if_pos w]; omega
    · rw [if_neg w]; omega
theorem cR7_lt {P : Nat → Bool} {a b : Nat} (h : P a = true) (hab : a < b) : cR7 P a + 1 ≤ cR7 P b := by
  have h1 := cR7_mono (P := P) (b - (a + 1)) (a + 1)
  rw [show a + 1 + (b - (a + 1)) = b by omega] at h1
  have h2 : cR7 P (a + 1) = cR7 P a + 1 := by
    show (if P a = true then cR7 P a + 1 else cR7 P a) = _
    rw [if_pos h]
  omega
theorem cR7_c {P Q : Nat → Bool} : ∀ n, (∀ i, i < n → P i = Q i) → cR7 P n = cR7 Q n
  | 0, _ => rfl
  | n + 1, h => by
    show (if P n = true then cR7 P n + 1 else cR7 P n) = (if Q n = true then cR7 Q n + 1 else cR7 Q n)
    rw [cR7_c n (fun i hi => h i (by omega)), h n (by omega)]
theorem cR7_add {P : Nat → Bool} {a : Nat} : ∀ n, cR7 P (a + n) = cR7 P a + cR7 (fun t => P (a + t)) n
  | 0 => rfl
  | n + 1 => by
    show (if P (a + n) = true then cR7 P (a + n) + 1 else cR7 P (a + n)) = cR7 P a + (if P (a + n) = true then cR7 (fun t => P (a + t)) n + 1 else cR7 (fun t => P (a + t)) n)
    rw [cR7_add n]
    by_cases w : P (a + n) = true
    · rw [if_pos w, if_pos w]; omega
    · rw [if_neg w, if_neg w]
theorem cR7_no {P : Nat → Bool} : ∀ n, (∀ i, i < n → ¬ P i = true) → cR7 P n = 0
  | 0, _ => rfl
  | n + 1, h => by
    show (if P n = true then cR7 P n + 1 else cR7 P n) = 0
    rw [if_neg (h n (by omega)), cR7_no n (fun i hi => h i (by omega))]
/-- sums of a row of numbers -/
def bl7 (g : Nat → Nat) : Nat → Nat
  | 0 => 0
  | x + 1 => bl7 g x + g x
theorem bl7_c {g g' : Nat → Nat} : ∀ n, (∀ i, i < n → g i = g' i) → bl7 g n = bl7 g' n
  | 0, _ => rfl
  | n + 1, h => by
    show bl7 g n + g n = bl7 g' n + g' n
    rw [bl7_c n (fun i hi => h i (by omega)), h n (by omega)]
def Nn7 : Nat → Nat → Nat
  | 0, _ => 1
  | k + 1, m => bl7 (fun x => if x ≤ m then Nn7 k (m - x) else 0) 7
theorem cnt7 : ∀ k m, cR7 (fun w => decide (sd7 k w ≤ m)) (q7 k) = Nn7 k m
  | 0, m => by
    show (if decide (0 ≤ m) = true then 0 + 1 else 0) = 1
    rw [if_pos (by rw [decide_eq_true_eq]; omega)]
  | k + 1, m => by
    have key : ∀ x, x ≤ 7 → cR7 (fun w => decide (sd7 (k + 1) w ≤ m)) (q7 k * x) = bl7 (fun x => if x ≤ m then Nn7 k (m - x) else 0) x := by
      intro x
      induction x with
      | zero => intro _; rfl
      | succ x ih =>
        intro hx
        have e1 : q7 k * (x + 1) = q7 k * x + q7 k := rfl
        rw [e1, cR7_add, ih (by omega)]
        show _ = bl7 _ x + (if x ≤ m then Nn7 k (m - x) else 0)
        refine congrArg (bl7 _ x + ·) ?_
        have e2 : ∀ t, t < q7 k → sd7 (k + 1) (q7 k * x + t) = sd7 k t + x := fun t ht => by
          rw [sd7_up ht 1]
          show sd7 k t + (0 + x / 1 % 7) = _
          omega
        by_cases w : x ≤ m
        · rw [if_pos w, ← cnt7 k (m - x)]
          refine cR7_c (q7 k) (fun t ht => ?_)
          show decide (sd7 (k + 1) (q7 k * x + t) ≤ m) = decide (sd7 k t ≤ m - x)
          rw [e2 t ht]
          exact decide_eq_decide.mpr (by omega)
        · rw [if_neg w]
          refine cR7_no (q7 k) (fun t ht => ?_)
          show ¬ decide (sd7 (k + 1) (q7 k * x + t) ≤ m) = true
          rw [e2 t ht, decide_eq_true_eq]
          omega
    exact key 7 (Nat.le_refl _)
theorem all7 : cR7 (fun w => decide (sd7 6 w ≤ 6)) (q7 6) = 924 := by
  rw [cnt7]
  decide +kernel
theorem q7_6 : q7 6 = 117649 := by decide
theorem q7_le : ∀ k, k < 7 → q7 k ≤ 117649 := by decide
theorem m_sevens {k : Nat} (hk : k ≤ 6) : F_Mod_sevens (nI k) = some (nI (q7 k)) := by
  have key : ∀ (s i f : Nat), i + s = k → H_Mod_sevens_4 (nI k) (f + 1 + s) (nI (q7 i)) (nI i) = some (nI (q7 k)) := by
    intro s
    induction s with
    | zero =>
      intro i f hi
      obtain rfl : i = k := by omega
      show B_Mod_sevens_4 (nI i) (H_Mod_sevens_4 (nI i) f) _ (nI i) = _
      unfold B_Mod_sevens_4
      rw [if_pos (by rw [nI_leI (by omega) (by omega)]; omega)]
    | succ s ih =>
      intro i f hi
      rw [← ih (i + 1) f (by omega)]
      show B_Mod_sevens_4 (nI k) (H_Mod_sevens_4 (nI k) (f + 1 + s)) _ (nI i) = _
      generalize H_Mod_sevens_4 (nI k) (f + 1 + s) = H
      unfold B_Mod_sevens_4
      rw [if_neg (by rw [nI_leI (by omega) (by omega)]; omega), nmI_e, nmI_e, nI_1, show (7 : Int32) = nI 7 from rfl, nI_mul]
      rfl
  unfold F_Mod_sevens
  obtain ⟨g, hg⟩ := FU_k (1 + k) (by omega)
  rw [hg, ← Nat.add_assoc]
  exact key k 0 g (Nat.zero_add _)
end PAR58
