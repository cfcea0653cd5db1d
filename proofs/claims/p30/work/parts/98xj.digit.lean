/-! ways as digits: six choices a day -/
section PAR54
def p6 : Nat → Nat
  | 0 => 1
  | k + 1 => p6 k * 6
/-- the digit of weight k -/
def dgk (w k : Nat) : Nat := w / p6 k % 6
/-- the choice of day i, of n days -/
def dg (n w i : Nat) : Nat := if i < n then dgk w (n - 1 - i) else 0
theorem p6_pos : ∀ k, 0 < p6 k
  | 0 => Nat.one_pos
  | k + 1 => Nat.mul_pos (p6_pos k) (by decide)
theorem p6_add (a : Nat) : ∀ b, p6 (a + b) = p6 a * p6 b
  | 0 => (Nat.mul_one _).symm
  | b + 1 => by
    show p6 (a + b) * 6 = p6 a * (p6 b * 6)
    rw [p6_add a b, Nat.mul_assoc]
theorem dgk_5 (w k : Nat) : dgk w k ≤ 5 := by
  have := Nat.mod_lt (w / p6 k) (show 0 < 6 by decide)
  unfold dgk
  omega
theorem dg_5 (n w i : Nat) : dg n w i ≤ 5 := by
  unfold dg
  by_cases h : i < n
  · rw [if_pos h]; exact dgk_5 _ _
  · rw [if_neg h]; omega
theorem p6_mod (w k : Nat) : w % p6 (k + 1) = w % p6 k + p6 k * dgk w k := Nat.mod_mul
/-- k digits that are all nd -/
def rpn (nd : Nat) : Nat → Nat
  | 0 => 0
  | k + 1 => rpn nd k + p6 k * nd
theorem rpn_lt {nd : Nat} (h : nd ≤ 5) : ∀ k, rpn nd k < p6 k
  | 0 => Nat.one_pos
  | k + 1 => by
    have h1 := rpn_lt h k
    have h2 : p6 k * nd ≤ p6 k * 5 := Nat.mul_le_mul_left _ h
    show rpn nd k + p6 k * nd < p6 k * 6
    omega
theorem low_le {nd w : Nat} : ∀ k, (∀ x, x < k → dgk w x ≤ nd) → w % p6 k ≤ rpn nd k
  | 0, _ => by
    show w % 1 ≤ 0
    omega
  | k + 1, h => by
    have h1 := low_le k (fun x hx => h x (by omega))
    have h2 : p6 k * dgk w k ≤ p6 k * nd := Nat.mul_le_mul_left _ (h k (by omega))
    rw [p6_mod]
    show _ ≤ rpn nd k + p6 k * nd
    omega
/-- all choices are dishes that there are -/
def vld (n nd w : Nat) : Prop := ∀ x, x < n → dgk w x ≤ nd
theorem vld_dg {n nd w : Nat} : vld n nd w ↔ ∀ i, i < n → dg n w i ≤ nd := by
  constructor
  · intro h i hi
    unfold dg
    rw [if_pos hi]
    exact h _ (by omega)
  · intro h x hx
    have := h (n - 1 - x) (by omega)
    unfold dg at this
    rw [if_pos (by omega), show n - 1 - (n - 1 - x) = x by omega] at this
    exact this
section NXT
variable {W k nd : Nat}
theorem nx_at : dgk (p6 k * (W / p6 k + 1)) k = (W / p6 k + 1) % 6 := by
  unfold dgk
  rw [Nat.mul_div_cancel_left _ (p6_pos k)]
theorem nx_up (hc : dgk W k < 5) {x : Nat} (hx : k < x) : dgk (p6 k * (W / p6 k + 1)) x = dgk W x := by
  unfold dgk at hc ⊢
  obtain ⟨m, rfl⟩ : ∃ m, x = k + (m + 1) := ⟨x - k - 1, by omega⟩
  rw [p6_add, ← Nat.div_div_eq_div_mul, ← Nat.div_div_eq_div_mul, Nat.mul_div_cancel_left _ (p6_pos k)]
  show (W / p6 k + 1) / (p6 m * 6) % 6 = W / p6 k / (p6 m * 6) % 6
  generalize W / p6 k = B at hc ⊢
  rw [Nat.mul_comm, ← Nat.div_div_eq_div_mul, ← Nat.div_div_eq_div_mul, show (B + 1) / 6 = B / 6 by omega]
theorem nx_dn {x : Nat} (hx : x < k) : dgk (p6 k * (W / p6 k + 1)) x = 0 := by
  unfold dgk
  obtain ⟨m, rfl⟩ : ∃ m, k = x + (m + 1) := ⟨k - x - 1, by omega⟩
  generalize W / p6 (x + (m + 1)) + 1 = B
  rw [p6_add, Nat.mul_assoc, Nat.mul_div_cancel_left _ (p6_pos x)]
  show p6 m * 6 * B % 6 = 0
  rw [Nat.mul_right_comm, Nat.mul_mod_left]
theorem nx_gt : W < p6 k * (W / p6 k + 1) := by
  have h1 := Nat.div_add_mod W (p6 k)
  have h2 := Nat.mod_lt W (p6_pos k)
  rw [Nat.mul_add]
  omega
/-- none in between -/
theorem nx_no {n w : Nat} (hr : W % p6 k = rpn nd k) (hk : k ≤ n) (h1 : W < w) (h2 : w < p6 k * (W / p6 k + 1)) : ¬ vld n nd w := fun hv => by
  have e1 : w / p6 k = W / p6 k := by
    have a : W / p6 k ≤ w / p6 k := Nat.div_le_div_right (Nat.le_of_lt h1)
    have b : w / p6 k < W / p6 k + 1 := Nat.div_lt_of_lt_mul h2
    omega
  have h3 := Nat.div_add_mod W (p6 k)
  have h4 := Nat.div_add_mod w (p6 k)
  have h5 := low_le k (fun x hx => hv x (by omega)) (w := w) (nd := nd)
  rw [e1] at h4
  omega
theorem nx_lt {n : Nat} (hc : dgk W k < 5) (hk : k < n) (hW : W < p6 n) : p6 k * (W / p6 k + 1) < p6 n := by
  unfold dgk at hc
  obtain ⟨m, rfl⟩ : ∃ m, n = k + (m + 1) := ⟨n - k - 1, by omega⟩
  rw [p6_add] at hW ⊢
  refine Nat.mul_lt_mul_of_pos_left ?_ (p6_pos k)
  have h1 : W / p6 k < p6 (m + 1) := Nat.div_lt_of_lt_mul hW
  have h2 : p6 (m + 1) = p6 m * 6 := rfl
  omega
end NXT
/-- the first with fewest, of the ways below w -/
def bsW (v : Nat → Option Nat) : Nat → Option (Nat × Nat)
  | 0 => none
  | w + 1 => match v w with
    | none => bsW v w
    | some m => match bsW v w with
      | none => some (w, m)
      | some (b, l) => if m < l then some (w, m) else some (b, l)
theorem bsW_none {v : Nat → Option Nat} {w : Nat} (h : v w = none) : bsW v (w + 1) = bsW v w := by
  show (match v w with | none => bsW v w | some m => _) = _
  rw [h]
theorem bsW_first {v : Nat → Option Nat} {w m : Nat} (h : v w = some m) (h2 : bsW v w = none) : bsW v (w + 1) = some (w, m) := by
  show (match v w with | none => bsW v w | some m => match bsW v w with | none => some (w, m) | some (b, l) => if m < l then some (w, m) else some (b, l)) = _
  rw [h, h2]
theorem bsW_some {v : Nat → Option Nat} {w m b l : Nat} (h : v w = some m) (h2 : bsW v w = some (b, l)) : bsW v (w + 1) = if m < l then some (w, m) else some (b, l) := by
  show (match v w with | none => bsW v w | some m => match bsW v w with | none => some (w, m) | some (b, l) => if m < l then some (w, m) else some (b, l)) = _
  rw [h, h2]
theorem bsW_skip {v : Nat → Option Nat} {a : Nat} : ∀ d, (∀ w, a ≤ w → w < a + d → v w = none) → bsW v (a + d) = bsW v a
  | 0, _ => rfl
  | d + 1, h => by
    rw [← Nat.add_assoc, bsW_none (h (a + d) (by omega) (by omega))]
    exact bsW_skip d (fun w p q => h w p (by omega))
/-- the meals of a menu, if all is free on all days -/
def mls (nd : Nat) (ok : Nat → Nat → Nat → Bool) (ch : Nat → Nat) : Nat → Nat → Nat → Nat → Nat → Option Nat
  | 0, _, _, _, cnt => some cnt
  | s + 1, i, meal, c, cnt => if nd < ch i then none else if ch i = 0 then (if ok i meal c = true then mls nd ok ch s (i + 1) meal c cnt else none) else (if ok i i (ch i) = true then mls nd ok ch s (i + 1) i (ch i) (cnt + 1) else none)
theorem mls_le {nd : Nat} {ok : Nat → Nat → Nat → Bool} {ch : Nat → Nat} : ∀ (s i meal c cnt m : Nat), mls nd ok ch s i meal c cnt = some m → m ≤ cnt + s
  | 0, _, _, _, cnt, m, h => by
    have := Option.some.inj h
    omega
  | s + 1, i, meal, c, cnt, m, h => by
    unfold mls at h
    by_cases w : nd < ch i
    · rw [if_pos w] at h; cases h
    rw [if_neg w] at h
    by_cases z : ch i = 0
    · rw [if_pos z] at h
      by_cases y : ok i meal c = true
      · rw [if_pos y] at h
        have := mls_le s _ _ _ _ m h
        omega
      · rw [if_neg y] at h; cases h
    · rw [if_neg z] at h
      by_cases y : ok i i (ch i) = true
      · rw [if_pos y] at h
        have := mls_le s _ _ _ _ m h
        omega
      · rw [if_neg y] at h; cases h
theorem mls_v {nd : Nat} {ok : Nat → Nat → Nat → Bool} {ch : Nat → Nat} : ∀ (s i meal c cnt : Nat), (∃ x, i ≤ x ∧ x < i + s ∧ nd < ch x) → mls nd ok ch s i meal c cnt = none
  | 0, i, _, _, _, ⟨x, a, b, _⟩ => by omega
  | s + 1, i, meal, c, cnt, ⟨x, a, b, e⟩ => by
    unfold mls
    by_cases w : nd < ch i
    · rw [if_pos w]
    rw [if_neg w]
    have hx : x ≠ i := fun z => w (z ▸ e)
    have h1 := fun meal c cnt => mls_v (nd := nd) (ok := ok) (ch := ch) s (i + 1) meal c cnt ⟨x, by omega, by omega, e⟩
    rw [h1, h1]
    by_cases z : ch i = 0
    · rw [if_pos z]
      by_cases y : ok i meal c = true
      · rw [if_pos y]
      · rw [if_neg y]
    · rw [if_neg z]
      by_cases y : ok i i (ch i) = true
      · rw [if_pos y]
      · rw [if_neg y]
theorem mls_c {nd : Nat} {ok ok' : Nat → Nat → Nat → Bool} {ch : Nat → Nat} {n : Nat} : ∀ (s i meal c cnt : Nat), i + s = n → meal ≤ i → c ≤ nd → (∀ i m c, i < n → m ≤ i → c ≤ nd → ok i m c = ok' i m c) → mls nd ok ch s i meal c cnt = mls nd ok' ch s i meal c cnt
  | 0, _, _, _, _, _, _, _, _ => rfl
  | s + 1, i, meal, c, cnt, hi, hm, hc, h => by
    unfold mls
    by_cases w : nd < ch i
    · rw [if_pos w, if_pos w]
    rw [if_neg w, if_neg w, h i meal c (by omega) hm hc, h i i (ch i) (by omega) (Nat.le_refl _) (by omega), mls_c s (i + 1) meal c cnt (by omega) (by omega) hc h, mls_c s (i + 1) i (ch i) (cnt + 1) (by omega) (by omega) (by omega) h]
/-- the test of a set of bits -/
def oks (x s : Int32) : Bool := decide (x &&& s = s)
theorem frP_64 : ∀ b0 b1 b2 b3 b4 b5 : Bool, ∀ n, n < 7 → (frP (q6 b0 b1 b2 b3 b4 b5) n).toInt.toNat < 64 ∧ frP (q6 b0 b1 b2 b3 b4 b5) n = nI (frP (q6 b0 b1 b2 b3 b4 b5) n).toInt.toNat := by decide +kernel
theorem set_64 : ∀ y, y < 64 → ∀ t, t < 64 → ((nI y &&& nI t = nI t) ↔ (nI t &&& (nI y ^^^ (-1)) = 0)) := by decide +kernel
theorem frS_set {M : gM} {lv ne t : Nat} {b : Nat → Int32} (h6 : ne ≤ 6) (ht : t < 64) : (nI t &&& (frS M lv b ne ^^^ (-1)) = 0) ↔ oks (frS M lv b ne) (nI t) = true := by
  have e : ∃ y, y < 64 ∧ frS M lv b ne = nI y := by
    rw [frS_P, frP_c (p' := q6 _ _ _ _ _ _) ne (fun i hi => q6_e _ (by omega))]
    exact ⟨_, (frP_64 _ _ _ _ _ _ ne (by omega)).1, (frP_64 _ _ _ _ _ _ ne (by omega)).2⟩
  obtain ⟨y, y1, y2⟩ := e
  unfold oks
  rw [decide_eq_true_eq, y2]
  exact (set_64 y y1 t ht).symm
theorem ch_n1 : ∀ c, c < 6 → ∀ nd, nd < 6 → (nI c - 1 < nI nd ↔ c ≤ nd) := by decide +kernel
theorem ch_n2 : ∀ c, c < 6 → (nI c - 1 < 0 ↔ c = 0) ∧ (0 ≤ nI c - 1 ↔ 0 < c) ∧ (nI c = 0 ↔ c = 0) := by decide +kernel
theorem ch_n3 : ∀ c, c < 6 → 0 < c → nI c - 1 = nI (c - 1) := by decide +kernel
theorem ch_n (c : Nat) (hc : c < 6) (nd : Nat) (hn : nd < 6) : (nI c - 1 < nI nd ↔ c ≤ nd) ∧ (nI c - 1 < 0 ↔ c = 0) ∧ (0 ≤ nI c - 1 ↔ c ≠ 0) ∧ (c ≠ 0 → nI c - 1 = nI (c - 1)) ∧ (nI c = 0 ↔ c = 0) := ⟨ch_n1 c hc nd hn, (ch_n2 c hc).1, by rw [(ch_n2 c hc).2.1]; omega, fun h => ch_n3 c hc (by omega), (ch_n2 c hc).2.2⟩
theorem sh_n : ∀ ne, ne < 7 → (1 : Int32) <<< (nI ne &&& 31) = nI (2 ^ ne) ∧ 2 ^ ne ≤ 64 := by decide +kernel
theorem m_sixes {k : Nat} (hk : k ≤ 4) : F_Mod_sixes (nI k) = some (nI (p6 k)) := by
  have key : ∀ (s i f : Nat), i + s = k → H_Mod_sixes_4 (nI k) (f + 1 + s) (nI (p6 i)) (nI i) = some (nI (p6 k)) := by
    intro s
    induction s with
    | zero =>
      intro i f hi
      obtain rfl : i = k := by omega
      show B_Mod_sixes_4 (nI i) (H_Mod_sixes_4 (nI i) f) _ (nI i) = _
      unfold B_Mod_sixes_4
      rw [if_pos (by rw [nI_leI (by omega) (by omega)]; omega)]
    | succ s ih =>
      intro i f hi
      rw [← ih (i + 1) f (by omega)]
      show B_Mod_sixes_4 (nI k) (H_Mod_sixes_4 (nI k) (f + 1 + s)) _ (nI i) = _
      generalize H_Mod_sixes_4 (nI k) (f + 1 + s) = H
      unfold B_Mod_sixes_4
      rw [if_neg (by rw [nI_leI (by omega) (by omega)]; omega), nmI_e, nmI_e, nI_1, show (6 : Int32) = nI 6 from rfl, nI_mul]
      rfl
  unfold F_Mod_sixes
  obtain ⟨g, hg⟩ := FU_k (1 + k) (by omega)
  rw [hg, ← Nat.add_assoc]
  exact key k 0 g (Nat.zero_add _)
theorem p6_4 : ∀ k, k < 5 → p6 k ≤ 1296 := by decide
end PAR54
