/-! the text's tokens, as they are for both -/
def isBl (c : Nat) : Bool := c == 9 || c == 10 || c == 13 || c == 32
def isLe (c : Nat) : Bool := decide (97 ≤ c) && decide (c ≤ 122)
def isDi (c : Nat) : Bool := decide (48 ≤ c) && decide (c ≤ 57)
def isSg (c : Nat) : Bool := c == 59 || c == 61 || c == 43 || c == 45 || c == 42 || c == 47 || c == 60 || c == 40 || c == 41
/-- the first place from i on, below n, where p doesn't hold -/
def rn (p : Nat → Bool) (b : Nat → Nat) (n : Nat) : Nat → Nat → Nat
  | 0, i => i
  | d + 1, i => if i < n ∧ p (b i) = true then rn p b n d (i + 1) else i
def rnE (p : Nat → Bool) (b : Nat → Nat) (n i : Nat) : Nat := rn p b n (n - i) i
theorem rnE_yes {p : Nat → Bool} {b : Nat → Nat} {n i : Nat} (h : i < n) (hp : p (b i) = true) : rnE p b n i = rnE p b n (i + 1) := by
  unfold rnE
  obtain ⟨d, hd⟩ : ∃ d, n - i = d + 1 := ⟨n - i - 1, by omega⟩
  rw [hd, show n - (i + 1) = d by omega]
  show (if i < n ∧ p (b i) = true then rn p b n d (i + 1) else i) = _
  rw [if_pos ⟨h, hp⟩]
theorem rnE_no {p : Nat → Bool} {b : Nat → Nat} {n i : Nat} (h : ¬ (i < n ∧ p (b i) = true)) : rnE p b n i = i := by
  unfold rnE
  cases hd : n - i with
  | zero => rfl
  | succ d =>
    show (if i < n ∧ p (b i) = true then rn p b n d (i + 1) else i) = _
    rw [if_neg h]
theorem rnE_ge {p : Nat → Bool} {b : Nat → Nat} {n : Nat} : ∀ d i, n - i = d → i ≤ rnE p b n i ∧ (i ≤ n → rnE p b n i ≤ n) ∧ (∀ j, i ≤ j → j < rnE p b n i → j < n ∧ p (b j) = true) ∧ ¬ (rnE p b n i < n ∧ p (b (rnE p b n i)) = true) := by
  intro d
  induction d with
  | zero =>
    intro i h
    rw [rnE_no (by omega)]
    exact ⟨Nat.le_refl _, fun h => h, fun j h1 h2 => by omega, by omega⟩
  | succ d ih =>
    intro i h
    by_cases hp : i < n ∧ p (b i) = true
    · obtain ⟨h1, h2, h3, h4⟩ := ih (i + 1) (by omega)
      rw [rnE_yes hp.1 hp.2]
      refine ⟨by omega, fun _ => h2 (by omega), fun j j1 j2 => ?_, h4⟩
      rcases Nat.lt_or_ge i j with w | w
      · exact h3 j (by omega) j2
      · rw [show j = i by omega]; exact hp
    · rw [rnE_no hp]
      exact ⟨Nat.le_refl _, fun h => h, fun j h1 h2 => by omega, hp⟩
theorem rnE_lt {p : Nat → Bool} {b : Nat → Nat} {n i : Nat} (h : i < n) (hp : p (b i) = true) : i < rnE p b n i := by
  rw [rnE_yes h hp]
  have := (rnE_ge (p := p) (b := b) (n := n) _ (i + 1) rfl).1
  omega
def lets (b : Nat → Nat) (i k : Nat) : List Nat := (List.range k).map (fun j => b (i + j) - 96)
theorem lets_s {b : Nat → Nat} {i k : Nat} : lets b i (k + 1) = lets b i k ++ [b (i + k) - 96] := by simp [lets, List.range_succ]
theorem lets_len {b : Nat → Nat} {i k : Nat} : (lets b i k).length = k := by simp [lets]
def enc (q : Nat) (l : List Nat) : Nat := l.foldl (fun a c => a * q + c) 0
theorem enc_s {q : Nat} {l : List Nat} {c : Nat} : enc q (l ++ [c]) = enc q l * q + c := by simp [enc]
theorem enc_lt {q : Nat} (hq : 27 ≤ q) : ∀ (n : Nat) (l : List Nat), l.length = n → (∀ c ∈ l, c ≤ 26) → enc q l < q ^ n := by
  intro n
  induction n with
  | zero => intro l h _; rw [List.length_eq_zero_iff.mp h]; simp [enc]
  | succ n ih =>
    intro l h hc
    have hne : l ≠ [] := fun e => by rw [e] at h; simp at h
    rw [← List.dropLast_concat_getLast hne, enc_s, Nat.pow_succ]
    have h1 := ih l.dropLast (by simp; omega) (fun c hm => hc c (List.dropLast_subset l hm))
    have h2 := hc _ (List.getLast_mem hne)
    have h3 : enc q l.dropLast * q + q ≤ q ^ n * q := by
      have : (enc q l.dropLast + 1) * q ≤ q ^ n * q := Nat.mul_le_mul_right _ h1
      rw [Nat.add_mul, Nat.one_mul] at this
      exact this
    omega
theorem mam {a q c : Nat} (h : c < q) : (a * q + c) % q = c := by rw [Nat.add_comm, Nat.add_mul_mod_self_right]; exact Nat.mod_eq_of_lt h
theorem enc_inj {q : Nat} (hq : 27 ≤ q) : ∀ (n : Nat) (l l' : List Nat), l.length = n → (∀ c ∈ l, 1 ≤ c ∧ c ≤ 26) → (∀ c ∈ l', 1 ≤ c ∧ c ≤ 26) → enc q l = enc q l' → l = l' := by
  intro n
  induction n with
  | zero =>
    intro l l' h _ hc' e
    rw [List.length_eq_zero_iff.mp h] at e ⊢
    by_cases hne : l' = []
    · exact hne.symm
    · rw [← List.dropLast_concat_getLast hne, enc_s] at e
      have h2 := hc' _ (List.getLast_mem hne)
      have : enc q ([] : List Nat) = 0 := rfl
      omega
  | succ n ih =>
    intro l l' h hc hc' e
    have hne : l ≠ [] := fun e => by rw [e] at h; simp at h
    have h2 := hc _ (List.getLast_mem hne)
    by_cases hne' : l' = []
    · rw [hne', ← List.dropLast_concat_getLast hne, enc_s] at e
      have : enc q ([] : List Nat) = 0 := rfl
      omega
    · have h3 := hc' _ (List.getLast_mem hne')
      rw [← List.dropLast_concat_getLast hne, ← List.dropLast_concat_getLast hne', enc_s, enc_s] at e
      have hm : (enc q l.dropLast * q + l.getLast hne) % q = (enc q l'.dropLast * q + l'.getLast hne') % q := by rw [e]
      rw [mam (by omega), mam (by omega)] at hm
      have hd : enc q l.dropLast = enc q l'.dropLast := by
        rw [hm] at e
        exact Nat.eq_of_mul_eq_mul_right (by omega) (Nat.add_right_cancel e)
      have := ih l.dropLast l'.dropLast (by simp; omega) (fun c hx => hc c (List.dropLast_subset l hx)) (fun c hx => hc' c (List.dropLast_subset l' hx)) hd
      rw [← List.dropLast_concat_getLast hne, ← List.dropLast_concat_getLast hne', this, hm]
