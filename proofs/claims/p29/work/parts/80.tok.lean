section MG10x0
/-! the text's tokens, as they are for both -/
def isBl (c : Nat) : Bool := c == 9 || c == 10 || c == 13 || c == 32
def isLe (c : Nat) : Bool := decide (97 ≤ c) && decide (c ≤ 122)
def isDi (c : Nat) : Bool := decide (48 ≤ c) && decide (c ≤ 57)
def isSg (c : Nat) : Bool := c == 59 || c == 61 || c == 43 || c == 45 || c == 42 || c == 47 || c == 60 || c == 40 || c == 41
/-- the first place from i on, below n, where p doesn't hold -/
def rn (p : Nat → Bool) (b : Nat → Nat) (n : Nat) : Nat → Nat → Nat
  | 0, i => i
  | d + 1, i => if i < n ∧ p (b i) = true then rn p b n d (i + 1) else i
def rnE (p : Nat → Bool) (b : Nat → Nat) (n i : Nat) : Nat := rn p b n (n - i) i
theorem rnE_yes {p : Nat → Bool} {b : Nat → Nat} {n i : Nat} (h : i < n) (hp : p (b i) = true) : rnE p b n i = rnE p b n (i + 1) := by
  unfold rnE
  obtain ⟨d, hd⟩ : ∃ d, n - i = d + 1 := ⟨n - i - 1, by omega⟩
  rw [hd, show n - (i + 1) = d by omega]
  show (if i < n ∧ p (b i) = true then rn p b n d (i + 1) else i) = _
  rw [if_pos ⟨h, hp⟩]
theorem rnE_no {p : Nat → Bool} {b : Nat → Nat} {n i : Nat} (h : ¬ (i < n ∧ p (b i) = true)) : rnE p b n i = i := by
  unfold rnE
  cases hd : n - i with
  | zero => rfl
  | succ d =>
    show (if i < n ∧ p (b i) = true then rn p b n d (i + 1) else i) = _
    rw [if_neg h]
theorem rnE_ge {p : Nat → Bool} {b : Nat → Nat} {n : Nat} : ∀ d i, n - i = d → i ≤ rnE p b n i ∧ (i ≤ n → rnE p b n i ≤ n) ∧ (∀ j, i ≤ j → j < rnE p b n i → j < n ∧ p (b j) = true) ∧ ¬ (rnE p b n i < n ∧ p (b (rnE p b n i)) = true) := by
  intro d
  induction d with
  | zero =>
    intro i h
    rw [rnE_no (by omega)]
    exact ⟨Nat.le_refl _, fun h => h, fun j h1 h2 => by omega, by omega⟩
  | succ d ih =>
    intro i h
    by_cases hp : i < n ∧ p (b i) = true
    · obtain ⟨h1, h2, h3, h4⟩ := ih (i + 1) (by omega)
      rw [rnE_yes hp.1 hp.2]
      refine ⟨by omega, fun _ => h2 (by omega), fun j j1 j2 => ?_, h4⟩
      rcases Nat.lt_or_ge i j with w | w
      · exact h3 j (by omega) j2
      · rw [show j = i by omega]; exact hp
    · rw [rnE_no hp]
      exact ⟨Nat.le_refl _, fun h => h, fun j h1 h2 => by omega, hp⟩
theorem rnE_lt {p : Nat → Bool} {b : Nat → Nat} {n i : Nat} (h : i < n) (hp : p (b i) = true) : i < rnE p b n i := by
  rw [rnE_yes h hp]
  have := (rnE_ge (p := p) (b := b) (n := n) _ (i + 1) rfl).1
  omega
def lets (b : Nat → Nat) (i k : Nat) : List Nat := (List.range k).map (fun j => b (i + j) - 96)
theorem lets_s {b : Nat → Nat} {i k : Nat} : lets b i (k + 1) = lets b i k ++ [b (i + k) - 96] := by simp [lets, List.range_succ]
theorem lets_len {b : Nat → Nat} {i k : Nat} : (lets b i k).length = k := by simp [lets]
def enc (q : Nat) (l : List Nat) : Nat := l.foldl (fun a c => a * q + c) 0
theorem enc_s {q : Nat} {l : List Nat} {c : Nat} : enc q (l ++ [c]) = enc q l * q + c := by simp [enc]
theorem enc_lt {q : Nat} (hq : 27 ≤ q) : ∀ (n : Nat) (l : List Nat), l.length = n → (∀ c ∈ l, c ≤ 26) → enc q l < q ^ n := by
  intro n
  induction n with
  | zero => intro l h _; rw [List.length_eq_zero_iff.mp h]; simp [enc]
  | succ n ih =>
    intro l h hc
    have hne : l ≠ [] := fun e => by rw [e] at h; simp at h
    rw [← List.dropLast_concat_getLast hne, enc_s, Nat.pow_succ]
    have h1 := ih l.dropLast (by simp; omega) (fun c hm => hc c (List.dropLast_subset l hm))
    have h2 := hc _ (List.getLast_mem hne)
    have h3 : enc q l.dropLast * q + q ≤ q ^ n * q := by
      have : (enc q l.dropLast + 1) * q ≤ q ^ n * q := Nat.mul_le_mul_right _ h1
      rw [Nat.add_mul, Nat.one_mul] at this
      exact this
    omega
theorem mam {a q c : Nat} (h : c < q) : (a * q + c) % q = c := by rw [Nat.add_comm, Nat.add_mul_mod_self_right]; exact Nat.mod_eq_of_lt h
theorem enc_inj {q : Nat} (hq : 27 ≤ q) : ∀ (n : Nat) (l l' : List Nat), l.length = n → (∀ c ∈ l, 1 ≤ c ∧ c ≤ 26) → (∀ c ∈ l', 1 ≤ c ∧ c ≤ 26) → enc q l = enc q l' → l = l' := by
  intro n
  induction n with
  | zero =>
    intro l l' h _ hc' e
    rw [List.length_eq_zero_iff.mp h] at e ⊢
    by_cases hne : l' = []
    · exact hne.symm
    · rw [← List.dropLast_concat_getLast hne, enc_s] at e
      have h2 := hc' _ (List.getLast_mem hne)
      have : enc q ([] : List Nat) = 0 := rfl
      omega
  | succ n ih =>
    intro l l' h hc hc' e
    have hne : l ≠ [] := fun e => by rw [e] at h; simp at h
    have h2 := hc _ (List.getLast_mem hne)
    by_cases hne' : l' = []
    · rw [hne', ← List.dropLast_concat_getLast hne, enc_s] at e
      have : enc q ([] : List Nat) = 0 := rfl
      omega
    · have h3 := hc' _ (List.getLast_mem hne')
      rw [← List.dropLast_concat_getLast hne, ← List.dropLast_concat_getLast hne', enc_s, enc_s] at e
      have hm : (enc q l.dropLast * q + l.getLast hne) % q = (enc q l'.dropLast * q + l'.getLast hne') % q := by rw [e]
      rw [mam (by omega), mam (by omega)] at hm
      have hd : enc q l.dropLast = enc q l'.dropLast := by
        rw [hm] at e
        exact Nat.eq_of_mul_eq_mul_right (by omega) (Nat.add_right_cancel e)
      have := ih l.dropLast l'.dropLast (by simp; omega) (fun c hx => hc c (List.dropLast_subset l hx)) (fun c hx => hc' c (List.dropLast_subset l' hx)) hd
      rw [← List.dropLast_concat_getLast hne, ← List.dropLast_concat_getLast hne', this, hm]
end MG10x0
section MG10x1
/-! the class's tokens -/
theorem lN_inj {a b : Nat} (ha : a < 2 ^ 63) (hb : b < 2 ^ 63) (h : lN a = lN b) : a = b := by
  have := congrArg Int64.toInt h
  rw [show lN a = Int64.ofNat a from rfl, show lN b = Int64.ofNat b from rfl, lg_ofNat_toInt ha, lg_ofNat_toInt hb] at this
  omega
theorem enc32_lt {l : List Nat} (hl : l.length ≤ 8) (hc : ∀ c ∈ l, 1 ≤ c ∧ c ≤ 26) : enc 32 l < 2 ^ 63 := Nat.lt_of_lt_of_le (enc_lt (by decide) _ l rfl (fun c h => (hc c h).2)) (Nat.le_trans (Nat.pow_le_pow_right (by decide) hl) (by decide))
theorem enc27_lt {l : List Nat} (hl : l.length ≤ 8) (hc : ∀ c ∈ l, 1 ≤ c ∧ c ≤ 26) : enc 27 l < 2 ^ 63 := Nat.lt_of_lt_of_le (enc_lt (by decide) _ l rfl (fun c h => (hc c h).2)) (Nat.le_trans (Nat.pow_le_pow_right (by decide) hl) (by decide))
def kws : List (List Nat) := [[6,15,15,4],[4,9,19,8],[7,21,5,19,20],[4,5,5,4],[6,15,18,3,5],[2,9,14,4,19],[6,9,12,12,19],[19,12,9,16,19],[19,5,5,4],[9,6],[20,8,5,14],[5,12,19,5],[19,21,13],[8,5,1,20],[11,9,14,4],[13,1,14,25],[4,1,25],[16,1,12,1,20,5],[1,7,15],[19,20,15,3,11],[16,18,9,3,5]]
def kwAt (w : Nat) : List Nat := kws.getD w []
/-- the first word from w on that is l, else 21 -/
def kwF (l : List Nat) : Nat → Nat → Nat
  | 0, w => w
  | d + 1, w => if kwAt w = l then w else kwF l d (w + 1)
def kwk (l : List Nat) : Nat := if kwF l 21 0 < 21 then 128 + kwF l 21 0 else 2
theorem kwF_le (l : List Nat) : ∀ d w, w ≤ kwF l d w ∧ kwF l d w ≤ w + d := by
  intro d
  induction d with
  | zero => intro w; exact ⟨Nat.le_refl _, Nat.le_refl _⟩
  | succ d ih =>
    intro w
    unfold kwF
    split
    · omega
    · have := ih (w + 1); omega
def tokL (b : Nat → Nat) (n f : Nat) : List Nat := lets b f (rnE isLe b n f - f)
def tokD (b : Nat → Nat) (n f : Nat) : List Nat := (List.range (rnE isDi b n f - f)).map (fun j => b (f + j) - 48)
/-- the token at f: kind, value, where the next one may begin -/
def tokAt (b : Nat → Nat) (n f : Nat) : Nat × Nat × Nat :=
  if n ≤ f then (0, 0, f + 1)
  else if isLe (b f) = true then ((if rnE isLe b n f - f ≤ 8 then kwk (tokL b n f) else 1), enc 32 (tokL b n f), rnE isLe b n f)
  else if isDi (b f) = true then ((if rnE isDi b n f - f ≤ 4 then 3 else 1), enc 10 (tokD b n f), rnE isDi b n f)
  else ((if isSg (b f) = true then b f else 1), 0, f + 1)
/-- where the search for token i begins; where it stands; what it is -/
def tkP (b : Nat → Nat) (n : Nat) : Nat → Nat
  | 0 => 0
  | i + 1 => (tokAt b n (rnE isBl b n (tkP b n i))).2.2
def tkF (b : Nat → Nat) (n i : Nat) : Nat := rnE isBl b n (tkP b n i)
def tkK (b : Nat → Nat) (n i : Nat) : Nat := (tokAt b n (tkF b n i)).1
def tkV (b : Nat → Nat) (n i : Nat) : Nat := (tokAt b n (tkF b n i)).2.1
theorem tkP_s {b : Nat → Nat} {n i : Nat} : tkP b n (i + 1) = (tokAt b n (tkF b n i)).2.2 := rfl
/-- the tape of n bytes b -/
def Tp (b : Nat → Nat) (n : Nat) (M : gM) : Prop := M 1 1 = nI n ∧ n ≤ 2000 ∧ ∀ j, j < n → M 2 j = nI (b j) ∧ b j ≤ 255
theorem c_byte {b : Nat → Nat} {n i : Nat} {M : gM} (h : Tp b n M) (hi : i < n) : F_Tape_byteAt (nI i) M = some (nI (b i)) := by
  unfold F_Tape_byteAt
  have h2 := h.2.1
  rw [if_neg (nI_pos (by omega)), h.1, if_neg (by rw [nI_leI (by omega) (by omega)]; omega), if_neg (by rw [show (2000 : Int32) = nI 2000 from rfl, nI_leI (by omega) (by omega)]; omega), if_neg (nI_in (by omega) (by omega)), nI_clamp (by omega), (h.2.2 i hi).1]
theorem c_byteE {b : Nat → Nat} {n i : Nat} {M : gM} (h : Tp b n M) (hi : n ≤ i) (h31 : i < 2 ^ 31) : F_Tape_byteAt (nI i) M = some (-1) := by
  unfold F_Tape_byteAt
  have h2 := h.2.1
  rw [if_neg (nI_pos (by omega)), h.1, if_pos (by rw [nI_leI (by omega) (by omega)]; omega)]
theorem c_blank {c : Nat} (h : c ≤ 255) : F_Tokens_isBlank (nI c) = some (if isBl c = true then 1 else 0) := (by decide +kernel : ∀ c, c < 256 → F_Tokens_isBlank (nI c) = some (if isBl c = true then 1 else 0)) c (by omega)
theorem c_sign {c : Nat} (h : c ≤ 255) : F_Tokens_isSign (nI c) = some (if isSg c = true then 1 else 0) := (by decide +kernel : ∀ c, c < 256 → F_Tokens_isSign (nI c) = some (if isSg c = true then 1 else 0)) c (by omega)
theorem c_blanks {b : Nat → Nat} {n : Nat} {M : gM} (h : Tp b n M) : ∀ (d i f : Nat), n - i = d → i ≤ n → d < f → H_Tokens_behindBlanks_2 M f (nI i) = some (nI (rnE isBl b n i)) := by
  intro d
  have h2 := h.2.1
  induction d with
  | zero =>
    intro i f hd hi hf
    obtain ⟨f, rfl⟩ : ∃ g, f = g + 1 := ⟨f - 1, by omega⟩
    show B_Tokens_behindBlanks_2 M _ (nI i) = _
    unfold B_Tokens_behindBlanks_2
    rw [h.1, if_pos (by rw [nI_leI (by omega) (by omega)]; omega), rnE_no (by omega)]
  | succ d ih =>
    intro i f hd hi hf
    obtain ⟨f, rfl⟩ : ∃ g, f = g + 1 := ⟨f - 1, by omega⟩
    show B_Tokens_behindBlanks_2 M (H_Tokens_behindBlanks_2 M f) (nI i) = _
    unfold B_Tokens_behindBlanks_2
    have hb := (h.2.2 i (by omega)).2
    rw [h.1, if_neg (by rw [nI_leI (by omega) (by omega)]; omega), c_byte h (by omega), bI_s, c_blank hb, bI_s]
    by_cases hp : isBl (b i) = true
    · rw [if_pos hp, if_neg (by decide), nmI_e, nI_1, ih (i + 1) f (by omega) (by omega) (by omega), rnE_yes (by omega) hp]
    · rw [if_neg hp, if_pos rfl, rnE_no (fun q => hp q.2)]
theorem c_from {b : Nat → Nat} {n i : Nat} {M : gM} (h : Tp b n M) (hi : i ≤ n) : F_Tokens_behindBlanks (nI i) M = some (nI (rnE isBl b n i)) := by
  have h2 := h.2.1
  exact c_blanks h _ i FU rfl hi (by unfold FU; omega)
theorem c_set {i : Nat} {k : Int32} {v : Int64} {M : gM} {L : gL} (h : i < 401) : F_Tokens_set (nI i) k v M L = some (uM M 6 i k, uL L 8 i v) := by
  unfold F_Tokens_set
  rw [if_neg (nI_pos (by omega)), if_neg (by rw [show (401 : Int32) = nI 401 from rfl, nI_leI (by omega) (by omega)]; omega), if_neg (by rw [show (401 : Int32) = nI 401 from rfl, nI_leI (by omega) (by omega)]; omega), if_neg (nI_in h (by decide)), nI_clamp (by omega), nmM_e, if_neg (nI_inc h (by omega)), nmL_e]
/-- the class's words -/
def Wdc (L : gL) : Prop := ∀ w, w < 21 → L 5 w = lN (enc 32 (kwAt w))
theorem kw_ok : ∀ w, w < 21 → (kwAt w).length ≤ 8 ∧ ∀ c ∈ kwAt w, 1 ≤ c ∧ c ≤ 26 := by decide +kernel
theorem c_kindL {l : List Nat} {L : gL} (hW : Wdc L) (hl : l.length ≤ 8) (hc : ∀ c ∈ l, 1 ≤ c ∧ c ≤ 26) : ∀ (d w f : Nat), w + d = 21 → d < f → H_Tokens_kindOf_2 (lN (enc 32 l)) L f (nI w) = some (nI (if kwF l d w < 21 then 128 + kwF l d w else 2)) := by
  intro d
  induction d with
  | zero =>
    intro w f hd hf
    obtain ⟨f, rfl⟩ : ∃ g, f = g + 1 := ⟨f - 1, by omega⟩
    show B_Tokens_kindOf_2 _ L _ (nI w) = _
    unfold B_Tokens_kindOf_2
    rw [if_pos (by rw [show (21 : Int32) = nI 21 from rfl, nI_leI (by omega) (by omega)]; omega), show kwF l 0 w = w from rfl, if_neg (by omega)]
    rfl
  | succ d ih =>
    intro w f hd hf
    obtain ⟨f, rfl⟩ : ∃ g, f = g + 1 := ⟨f - 1, by omega⟩
    show B_Tokens_kindOf_2 _ L (H_Tokens_kindOf_2 _ L f) (nI w) = _
    unfold B_Tokens_kindOf_2
    rw [if_neg (by rw [show (21 : Int32) = nI 21 from rfl, nI_leI (by omega) (by omega)]; omega), if_neg (nI_in (by omega) (by decide)), nI_clamp (by omega), hW w (by omega)]
    unfold kwF
    by_cases he : kwAt w = l
    · rw [if_pos he, if_pos ((lg_cmp_eq _ _).mpr (by rw [he])), if_pos (by omega), show (128 : Int32) = nI 128 from rfl, nI_add]
    · rw [if_neg he, if_neg (fun q => he (enc_inj (by decide) _ _ _ rfl (kw_ok w (by omega)).2 hc (lN_inj (enc32_lt (kw_ok w (by omega)).1 (kw_ok w (by omega)).2) (enc32_lt hl hc) ((lg_cmp_eq _ _).mp q)))), nmI_e, nI_1]
      exact ih (w + 1) f (by omega) (by omega)
theorem c_kind {l : List Nat} {L : gL} (hW : Wdc L) (hl : l.length ≤ 8) (hc : ∀ c ∈ l, 1 ≤ c ∧ c ≤ 26) : F_Tokens_kindOf (lN (enc 32 l)) L = some (nI (kwk l)) := c_kindL hW hl hc 21 0 FU rfl (by unfold FU; omega)
theorem le_iff {c : Nat} : isLe c = true ↔ 97 ≤ c ∧ c ≤ 122 := by simp [isLe]
theorem di_iff {c : Nat} : isDi c = true ↔ 48 ≤ c ∧ c ≤ 57 := by simp [isDi]
theorem lets_ok {b : Nat → Nat} {n f e : Nat} (he : e ≤ rnE isLe b n f) : ∀ c ∈ lets b f (e - f), 1 ≤ c ∧ c ≤ 26 := by
  intro c hc
  simp only [lets, List.mem_map, List.mem_range] at hc
  obtain ⟨j, hj, rfl⟩ := hc
  have := ((rnE_ge (p := isLe) (b := b) (n := n) _ f rfl).2.2.1 (f + j) (by omega) (by omega)).2
  rw [le_iff] at this
  omega
theorem c_let {c e : Nat} (h : 97 ≤ c ∧ c ≤ 122) : lN e * 32 + (((nI c - 97) + 1) : Int32).toInt64 = lN (e * 32 + (c - 96)) := by
  rw [show (97 : Int32) = nI 97 from rfl, nI_sub h.1, nI_1, nI_l (by omega), show (32 : Int64) = lN 32 from rfl, lN_mul, lN_add]
  congr 1
  omega
theorem c_lettersL {b : Nat → Nat} {n f : Nat} {v3 : Int32} {M : gM} {L : gL} (h : Tp b n M) (hf : f ≤ n) : ∀ (d e g : Nat), rnE isLe b n f - e = d → f ≤ e → e ≤ rnE isLe b n f → d < g → H_Tokens_cutLetters_6 (nI f) v3 M L g (lN (enc 32 (lets b f (e - f)))) (nI e) = J_Tokens_cutLetters_56 (nI f) v3 (lN (enc 32 (tokL b n f))) (nI (rnE isLe b n f)) M L := by
  have h2 := h.2.1
  obtain ⟨r1, r2, r3, r4⟩ := rnE_ge (p := isLe) (b := b) (n := n) _ f rfl
  have r2 := r2 hf
  intro d
  induction d with
  | zero =>
    intro e g hd h1 he hg
    obtain ⟨g, rfl⟩ : ∃ x, g = x + 1 := ⟨g - 1, by omega⟩
    obtain rfl : e = rnE isLe b n f := by omega
    show B_Tokens_cutLetters_6 (nI f) v3 M L (H_Tokens_cutLetters_6 (nI f) v3 M L g) _ (nI (rnE isLe b n f)) = _
    unfold B_Tokens_cutLetters_6
    rw [h.1]
    by_cases hn : n ≤ rnE isLe b n f
    · rw [if_pos (by rw [nI_leI (by omega) (by omega)]; omega)]
      rfl
    · have hb := (h.2.2 _ (show rnE isLe b n f < n by omega)).2
      have hp : ¬ (97 ≤ b (rnE isLe b n f) ∧ b (rnE isLe b n f) ≤ 122) := fun q => r4 ⟨by omega, le_iff.mpr q⟩
      rw [if_neg (by rw [nI_leI (by omega) (by omega)]; omega), c_byte h (by omega), bI_s]
      by_cases hl : b (rnE isLe b n f) < 97
      · rw [if_pos (by rw [show (97 : Int32) = nI 97 from rfl, nI_ltI (by omega) (by omega)]; omega)]
        rfl
      · rw [if_neg (by rw [show (97 : Int32) = nI 97 from rfl, nI_ltI (by omega) (by omega)]; omega), bI_s, if_pos (by rw [show (122 : Int32) = nI 122 from rfl, nI_ltI (by omega) (by omega)]; omega)]
        rfl
  | succ d ih =>
    intro e g hd h1 he hg
    obtain ⟨g, rfl⟩ : ∃ x, g = x + 1 := ⟨g - 1, by omega⟩
    have hq := r3 e h1 (by omega)
    have hp := le_iff.mp hq.2
    have hb := (h.2.2 e hq.1).2
    show B_Tokens_cutLetters_6 (nI f) v3 M L (H_Tokens_cutLetters_6 (nI f) v3 M L g) _ (nI e) = _
    unfold B_Tokens_cutLetters_6
    rw [h.1, if_neg (by rw [nI_leI (by omega) (by omega)]; omega), c_byte h hq.1, bI_s, if_neg (by rw [show (97 : Int32) = nI 97 from rfl, nI_ltI (by omega) (by omega)]; omega), bI_s, if_neg (by rw [show (122 : Int32) = nI 122 from rfl, nI_ltI (by omega) (by omega)]; omega), bI_s]
    unfold F_Tokens_withLetter
    rw [bI_s, nmI_e, nI_1, c_let hp]
    have e1 : lets b f (e + 1 - f) = lets b f (e - f) ++ [b e - 96] := by
      rw [show e + 1 - f = (e - f) + 1 by omega, lets_s, show f + (e - f) = e by omega]
    rw [← enc_s, ← e1]
    exact ih (e + 1) g (by omega) (by omega) (by omega) (by omega)
theorem c_letters {b : Nat → Nat} {n f i : Nat} {M : gM} {L : gL} (h : Tp b n M) (hW : Wdc L) (hf : f < n) (hp : isLe (b f) = true) (hi : i < 401) : F_Tokens_cutLetters (nI f) (nI i) M L = some (nI (tokAt b n f).2.2, uM M 6 i (nI (tokAt b n f).1), uL L 8 i (lN (tokAt b n f).2.1)) := by
  have h2 := h.2.1
  obtain ⟨r1, r2, r3, r4⟩ := rnE_ge (p := isLe) (b := b) (n := n) _ f rfl
  have r2 := r2 (by omega)
  unfold F_Tokens_cutLetters
  have e0 : lN (enc 32 (lets b f (f - f))) = 0 := by rw [Nat.sub_self]; rfl
  have hl := c_lettersL (v3 := nI i) (L := L) h (by omega) _ f FU rfl (Nat.le_refl _) r1 (by unfold FU; omega)
  rw [e0] at hl
  rw [hl]
  unfold tokAt
  rw [if_neg (by omega), if_pos hp]
  unfold J_Tokens_cutLetters_56 J_Tokens_cutLetters_77
  rw [nI_sub r1]
  by_cases h8 : rnE isLe b n f - f ≤ 8
  · rw [if_pos (by rw [show (8 : Int32) = nI 8 from rfl, nI_leI (by omega) (by omega)]; omega), if_pos h8, c_kind hW (l := tokL b n f) (by show (lets b f _).length ≤ 8; rw [lets_len]; exact h8) (lets_ok (Nat.le_refl _)), bI_s, c_set hi]
    rfl
  · rw [if_neg (by rw [show (8 : Int32) = nI 8 from rfl, nI_leI (by omega) (by omega)]; omega), if_neg h8, c_set hi]
    rfl
def digs (b : Nat → Nat) (i k : Nat) : List Nat := (List.range k).map (fun j => b (i + j) - 48)
theorem digs_s {b : Nat → Nat} {i k : Nat} : digs b i (k + 1) = digs b i k ++ [b (i + k) - 48] := by simp [digs, List.range_succ]
theorem c_digL {b : Nat → Nat} {n f : Nat} {v3 : Int32} {M : gM} {L : gL} (h : Tp b n M) (hf : f ≤ n) : ∀ (d e g : Nat), rnE isDi b n f - e = d → f ≤ e → e ≤ rnE isDi b n f → d < g → H_Tokens_cutDigits_6 (nI f) v3 M L g (lN (enc 10 (digs b f (e - f)))) (nI e) = J_Tokens_cutDigits_62 (nI f) v3 (lN (enc 10 (tokD b n f))) (nI (rnE isDi b n f)) M L := by
  have h2 := h.2.1
  obtain ⟨r1, r2, r3, r4⟩ := rnE_ge (p := isDi) (b := b) (n := n) _ f rfl
  have r2 := r2 hf
  intro d
  induction d with
  | zero =>
    intro e g hd h1 he hg
    obtain ⟨g, rfl⟩ : ∃ x, g = x + 1 := ⟨g - 1, by omega⟩
    obtain rfl : e = rnE isDi b n f := by omega
    show B_Tokens_cutDigits_6 (nI f) v3 M L (H_Tokens_cutDigits_6 (nI f) v3 M L g) _ (nI (rnE isDi b n f)) = _
    unfold B_Tokens_cutDigits_6
    rw [h.1]
    by_cases hn : n ≤ rnE isDi b n f
    · rw [if_pos (by rw [nI_leI (by omega) (by omega)]; omega)]
      rfl
    · have hb := (h.2.2 _ (show rnE isDi b n f < n by omega)).2
      have hp : ¬ (48 ≤ b (rnE isDi b n f) ∧ b (rnE isDi b n f) ≤ 57) := fun q => r4 ⟨by omega, di_iff.mpr q⟩
      rw [if_neg (by rw [nI_leI (by omega) (by omega)]; omega), c_byte h (by omega), bI_s]
      by_cases hl : b (rnE isDi b n f) < 48
      · rw [if_pos (by rw [show (48 : Int32) = nI 48 from rfl, nI_ltI (by omega) (by omega)]; omega)]
        rfl
      · rw [if_neg (by rw [show (48 : Int32) = nI 48 from rfl, nI_ltI (by omega) (by omega)]; omega), bI_s, if_pos (by rw [show (57 : Int32) = nI 57 from rfl, nI_ltI (by omega) (by omega)]; omega)]
        rfl
  | succ d ih =>
    intro e g hd h1 he hg
    obtain ⟨g, rfl⟩ : ∃ x, g = x + 1 := ⟨g - 1, by omega⟩
    have hq := r3 e h1 (by omega)
    have hp := di_iff.mp hq.2
    have hb := (h.2.2 e hq.1).2
    show B_Tokens_cutDigits_6 (nI f) v3 M L (H_Tokens_cutDigits_6 (nI f) v3 M L g) _ (nI e) = _
    unfold B_Tokens_cutDigits_6
    rw [h.1, if_neg (by rw [nI_leI (by omega) (by omega)]; omega), c_byte h hq.1, bI_s, if_neg (by rw [show (48 : Int32) = nI 48 from rfl, nI_ltI (by omega) (by omega)]; omega), bI_s, if_neg (by rw [show (57 : Int32) = nI 57 from rfl, nI_ltI (by omega) (by omega)]; omega), bI_s, nmJ_e, nmI_e, nI_1]
    rw [show (48 : Int32) = nI 48 from rfl, nI_sub hp.1, nI_l (by omega), show (10 : Int64) = lN 10 from rfl, lN_mul, lN_add]
    have e1 : digs b f (e + 1 - f) = digs b f (e - f) ++ [b e - 48] := by
      rw [show e + 1 - f = (e - f) + 1 by omega, digs_s, show f + (e - f) = e by omega]
    rw [← enc_s, ← e1]
    exact ih (e + 1) g (by omega) (by omega) (by omega) (by omega)
theorem c_digits {b : Nat → Nat} {n f i : Nat} {M : gM} {L : gL} (h : Tp b n M) (hf : f < n) (hp : isDi (b f) = true) (hp2 : ¬ isLe (b f) = true) (hi : i < 401) : F_Tokens_cutDigits (nI f) (nI i) M L = some (nI (tokAt b n f).2.2, uM M 6 i (nI (tokAt b n f).1), uL L 8 i (lN (tokAt b n f).2.1)) := by
  have h2 := h.2.1
  obtain ⟨r1, r2, r3, r4⟩ := rnE_ge (p := isDi) (b := b) (n := n) _ f rfl
  have r2 := r2 (by omega)
  unfold F_Tokens_cutDigits
  have e0 : lN (enc 10 (digs b f (f - f))) = 0 := by rw [Nat.sub_self]; rfl
  have hl := c_digL (v3 := nI i) (L := L) h (by omega) _ f FU rfl (Nat.le_refl _) r1 (by unfold FU; omega)
  rw [e0] at hl
  rw [hl]
  unfold tokAt
  rw [if_neg (by omega), if_neg hp2, if_pos hp]
  unfold J_Tokens_cutDigits_62 J_Tokens_cutDigits_77
  rw [nI_sub r1]
  by_cases h8 : rnE isDi b n f - f ≤ 4
  · rw [if_pos (by rw [show (4 : Int32) = nI 4 from rfl, nI_leI (by omega) (by omega)]; omega), if_pos h8, c_set hi]
    rfl
  · rw [if_neg (by rw [show (4 : Int32) = nI 4 from rfl, nI_leI (by omega) (by omega)]; omega), if_neg h8, c_set hi]
    rfl
theorem c_one {b : Nat → Nat} {n f i : Nat} {M : gM} {L : gL} (h : Tp b n M) (hW : Wdc L) (hf : f ≤ n) (hi : i < 401) : F_Tokens_cutOne (nI f) (nI i) M L = some (nI (tokAt b n f).2.2, uM M 6 i (nI (tokAt b n f).1), uL L 8 i (lN (tokAt b n f).2.1)) := by
  have h2 := h.2.1
  unfold F_Tokens_cutOne
  by_cases hn : n ≤ f
  · rw [c_byteE h hn (by omega), bI_s, if_pos (by decide)]
    unfold J_Tokens_cutOne_29
    rw [if_pos (by decide)]
    unfold J_Tokens_cutOne_51
    rw [if_neg (by decide), c_set hi]
    unfold tokAt
    rw [if_pos hn]
    show some (nI f + 1, _, _) = _
    rw [nI_1]
    rfl
  · have hb := (h.2.2 f (by omega)).2
    rw [c_byte h (by omega), bI_s]
    have k1 : J_Tokens_cutOne_51 (nI f) (nI i) (nI (b f)) M L = some (nI (f + 1), uM M 6 i (nI (if isSg (b f) = true then b f else 1)), uL L 8 i 0) := by
      unfold J_Tokens_cutOne_51 J_Tokens_cutOne_82
      rw [if_pos (nI_pos' (by omega)), c_sign hb, bI_s, ← nI_1]
      by_cases hs : isSg (b f) = true
      · rw [if_pos hs, if_neg (by decide), if_pos hs, c_set hi]
        rfl
      · rw [if_neg hs, if_pos rfl, if_neg hs, c_set hi]
        rfl
    have k2 : ¬ isLe (b f) = true → J_Tokens_cutOne_29 (nI f) (nI i) (nI (b f)) M L = some (nI (tokAt b n f).2.2, uM M 6 i (nI (tokAt b n f).1), uL L 8 i (lN (tokAt b n f).2.1)) := by
      intro hl
      unfold J_Tokens_cutOne_29
      by_cases hd : isDi (b f) = true
      · have hd' := di_iff.mp hd
        rw [if_neg (by rw [show (48 : Int32) = nI 48 from rfl, nI_ltI (by omega) (by omega)]; omega), if_neg (by rw [show (57 : Int32) = nI 57 from rfl, nI_ltI (by omega) (by omega)]; omega), c_digits h (by omega) hd hl hi]
        rfl
      · have hd' := mt di_iff.mpr hd
        have k3 : tokAt b n f = ((if isSg (b f) = true then b f else 1), 0, f + 1) := by unfold tokAt; rw [if_neg hn, if_neg hl, if_neg hd]
        by_cases h48 : b f < 48
        · rw [if_pos (by rw [show (48 : Int32) = nI 48 from rfl, nI_ltI (by omega) (by omega)]; omega), k1, k3]
          rfl
        · rw [if_neg (by rw [show (48 : Int32) = nI 48 from rfl, nI_ltI (by omega) (by omega)]; omega), if_pos (by rw [show (57 : Int32) = nI 57 from rfl, nI_ltI (by omega) (by omega)]; omega), k1, k3]
          rfl
    by_cases hl : isLe (b f) = true
    · have hl' := le_iff.mp hl
      rw [if_neg (by rw [show (97 : Int32) = nI 97 from rfl, nI_ltI (by omega) (by omega)]; omega), if_neg (by rw [show (122 : Int32) = nI 122 from rfl, nI_ltI (by omega) (by omega)]; omega), c_letters h hW (by omega) hl hi]
      rfl
    · have hl' := mt le_iff.mpr hl
      by_cases h97 : b f < 97
      · rw [if_pos (by rw [show (97 : Int32) = nI 97 from rfl, nI_ltI (by omega) (by omega)]; omega), k2 hl]
      · rw [if_neg (by rw [show (97 : Int32) = nI 97 from rfl, nI_ltI (by omega) (by omega)]; omega), if_pos (by rw [show (122 : Int32) = nI 122 from rfl, nI_ltI (by omega) (by omega)]; omega), k2 hl]
theorem tokAt_K {b : Nat → Nat} {n f : Nat} (hb : ∀ j, j < n → b j ≤ 255) : (tokAt b n f).1 ≤ 255 := by
  unfold tokAt
  split
  · exact Nat.zero_le _
  · split
    · show (if rnE isLe b n f - f ≤ 8 then kwk (tokL b n f) else 1) ≤ 255
      have := (kwF_le (tokL b n f) 21 0).2
      unfold kwk
      split
      · split <;> omega
      · decide
    · split
      · show (if rnE isDi b n f - f ≤ 4 then 3 else 1) ≤ 255
        split <;> decide
      · show (if isSg (b f) = true then b f else 1) ≤ 255
        have := hb f (by omega)
        split <;> omega
theorem tokAt_P {b : Nat → Nat} {n f : Nat} (hf : f < n) : f < (tokAt b n f).2.2 ∧ (tokAt b n f).2.2 ≤ n := by
  unfold tokAt
  rw [if_neg (by omega)]
  split
  · next h => exact ⟨rnE_lt hf h, (rnE_ge (p := isLe) (b := b) (n := n) _ f rfl).2.1 (by omega)⟩
  · split
    · next h => exact ⟨rnE_lt hf h, (rnE_ge (p := isDi) (b := b) (n := n) _ f rfl).2.1 (by omega)⟩
    · exact ⟨Nat.lt_succ_self _, hf⟩
theorem tokAt_0 {b : Nat → Nat} {n f : Nat} (h : n ≤ f) : tokAt b n f = (0, 0, f + 1) := by unfold tokAt; rw [if_pos h]
theorem sg_0 : isSg 0 = false := by decide
theorem kwk_pos (l : List Nat) : 2 ≤ kwk l := by unfold kwk; split <;> omega
theorem tokAt_n0 {b : Nat → Nat} {n f : Nat} (h : f < n) : (tokAt b n f).1 ≠ 0 := by
  unfold tokAt
  rw [if_neg (by omega)]
  split
  · show (if rnE isLe b n f - f ≤ 8 then kwk (tokL b n f) else 1) ≠ 0
    have := kwk_pos (tokL b n f)
    split <;> omega
  · split
    · show (if rnE isDi b n f - f ≤ 4 then 3 else 1) ≠ 0
      split <;> omega
    · show (if isSg (b f) = true then b f else 1) ≠ 0
      split
      · next h => intro e; rw [e] at h; exact absurd h (by decide)
      · omega
theorem tkF_le {b : Nat → Nat} {n i : Nat} (h : tkP b n i ≤ n) : tkP b n i ≤ tkF b n i ∧ tkF b n i ≤ n := by
  have := rnE_ge (p := isBl) (b := b) (n := n) _ (tkP b n i) rfl
  exact ⟨this.1, this.2.1 h⟩
theorem tkP_le {b : Nat → Nat} {n : Nat} : ∀ i, (∀ j, j < i → tkK b n j ≠ 0) → tkP b n i ≤ n := by
  intro i
  induction i with
  | zero => intro _; exact Nat.zero_le _
  | succ i ih =>
    intro h
    have h1 := ih (fun j hj => h j (by omega))
    have h2 := tkF_le h1
    rw [tkP_s]
    rcases Nat.lt_or_ge (tkF b n i) n with w | w
    · exact (tokAt_P w).2
    · exfalso
      apply h i (by omega)
      unfold tkK
      rw [tokAt_0 w]
/-- what the class's cut leaves: tokens up to the m-th, the last one that it keeps -/
def Ck (b : Nat → Nat) (n m : Nat) (M : gM) (L : gL) : Prop := ∀ i, i ≤ m → M 6 i = nI (tkK b n i) ∧ M 7 i = nI (tkF b n i) ∧ L 8 i = lN (tkV b n i)
def isLast (b : Nat → Nat) (n m : Nat) : Prop := m ≤ 400 ∧ (∀ i, i < m → tkK b n i ≠ 0 ∧ tkK b n i ≠ 1) ∧ (m = 400 ∨ tkK b n m = 0 ∨ tkK b n m = 1)
theorem c_cutL {b : Nat → Nat} {n : Nat} : ∀ (d i f : Nat) (M : gM) (L : gL), Tp b n M → Wdc L → i + d = 401 → d < f → (∀ j, j < i → tkK b n j ≠ 0 ∧ tkK b n j ≠ 1) → (∀ j, j < i → M 6 j = nI (tkK b n j) ∧ M 7 j = nI (tkF b n j) ∧ L 8 j = lN (tkV b n j)) → (0 < i → 0 < d ∨ True) → i ≤ 400 →
    ∃ m M' L', isLast b n m ∧ H_Tokens_cut_4 f (nI (tkP b n i)) (nI i) M L = some (M', L') ∧ Ck b n m M' L' ∧ Eo (fun c _ => c = 6 ∨ c = 7) M M' ∧ (∀ c j, c ≠ 8 → L' c j = L c j) := by
  intro d
  induction d with
  | zero => intro i f M L _ _ h _ _ _ _ h400; omega
  | succ d ih =>
    intro i f M L hT hW hd hf hk hc _ h400
    obtain ⟨f, rfl⟩ : ∃ x, f = x + 1 := ⟨f - 1, by omega⟩
    have h2 := hT.2.1
    have hP := tkP_le i (fun j hj => (hk j hj).1)
    have hF := tkF_le hP
    have hb255 : ∀ j, j < n → b j ≤ 255 := fun j hj => (hT.2.2 j hj).2
    have hK := tokAt_K (f := tkF b n i) hb255
    show ∃ m M' L', isLast b n m ∧ B_Tokens_cut_4 (H_Tokens_cut_4 f) (nI (tkP b n i)) (nI i) M L = some (M', L') ∧ _
    unfold B_Tokens_cut_4
    rw [if_neg (by rw [show (401 : Int32) = nI 401 from rfl, nI_leI (by omega) (by omega)]; omega), c_from hT hP, bI_s, show rnE isBl b n (tkP b n i) = tkF b n i from rfl, c_one hT hW hF.2 (by omega), show (tokAt b n (tkF b n i)).2.2 = tkP b n (i + 1) from rfl, show (tokAt b n (tkF b n i)).2.1 = tkV b n i from rfl, show (tokAt b n (tkF b n i)).1 = tkK b n i from rfl, bI3_s]
    rw [s_put (by omega) (by decide), bI_s, if_neg (nI_in (by omega) (by decide)), nI_clamp (by omega), uM_diff (by omega), uM_same]
    have hE : Eo (fun c _ => c = 6 ∨ c = 7) M (uM (uM M 6 i (nI (tkK b n i))) 7 i (nI (tkF b n i))) := (Eo.rf.u (Or.inl rfl)).u (Or.inr rfl)
    have hL : ∀ c j, c ≠ 8 → uL L 8 i (lN (tkV b n i)) c j = L c j := fun c j h => by rw [uL_ne _ _ _ h]
    have hC : ∀ j, j < i + 1 → (uM (uM M 6 i (nI (tkK b n i))) 7 i (nI (tkF b n i))) 6 j = nI (tkK b n j) ∧ (uM (uM M 6 i (nI (tkK b n i))) 7 i (nI (tkF b n i))) 7 j = nI (tkF b n j) ∧ uL L 8 i (lN (tkV b n i)) 8 j = lN (tkV b n j) := by
      intro j hj
      by_cases hji : j = i
      · subst hji
        exact ⟨by rw [uM_diff (by omega), uM_same], uM_same, by rw [uL_at, if_pos ⟨rfl, rfl⟩]⟩
      · obtain ⟨a1, a2, a3⟩ := hc j (by omega)
        exact ⟨by rw [uM_diff (by omega), uM_diff (by omega)]; exact a1, by rw [uM_diff (by omega), uM_diff (by omega)]; exact a2, by rw [uL_at, if_neg (fun q => hji q.2)]; exact a3⟩
    generalize uM (uM M 6 i (nI (tkK b n i))) 7 i (nI (tkF b n i)) = M1 at hE hC ⊢
    generalize uL L 8 i (lN (tkV b n i)) = L1 at hL hC ⊢
    have hK' : tkK b n i ≤ 255 := hK
    by_cases h0 : tkK b n i = 0
    · rw [h0, if_pos (by decide : (nI 0 : Int32) = 0)]
      exact ⟨i, M1, L1, ⟨h400, hk, Or.inr (Or.inl h0)⟩, rfl, fun j hj => hC j (by omega), hE, hL⟩
    · rw [if_neg (by rw [show (0 : Int32) = nI 0 from rfl, nI_eq (by omega) (by omega)]; exact h0), if_neg (nI_inc (by omega) (by omega))]
      by_cases h1 : tkK b n i = 1
      · rw [h1, if_pos (by decide : (nI 1 : Int32) = 1)]
        exact ⟨i, M1, L1, ⟨h400, hk, Or.inr (Or.inr h1)⟩, rfl, fun j hj => hC j (by omega), hE, hL⟩
      · rw [if_neg (by rw [show (1 : Int32) = nI 1 from rfl, nI_eq (by omega) (by omega)]; exact h1), nmI_e, nI_1]
        have hk' : ∀ j, j < i + 1 → tkK b n j ≠ 0 ∧ tkK b n j ≠ 1 := fun j hj => by
          by_cases hji : j = i
          · subst hji; exact ⟨h0, h1⟩
          · exact hk j (by omega)
        by_cases h4 : i = 400
        · subst h4
          obtain ⟨f, rfl⟩ : ∃ x, f = x + 1 := ⟨f - 1, by omega⟩
          refine ⟨400, M1, L1, ⟨Nat.le_refl _, hk, Or.inl rfl⟩, ?_, fun j hj => hC j (by omega), hE, hL⟩
          show B_Tokens_cut_4 (H_Tokens_cut_4 f) (nI (tkP b n (400 + 1))) (nI 401) M1 L1 = _
          unfold B_Tokens_cut_4
          rw [if_pos (by decide)]
        · have hT1 : Tp b n M1 := ⟨by rw [hE 1 1 (by omega)]; exact hT.1, hT.2.1, fun j hj => ⟨by rw [hE 2 j (by omega)]; exact (hT.2.2 j hj).1, (hT.2.2 j hj).2⟩⟩
          obtain ⟨m, M', L', g1, g2, g3, g4, g5⟩ := ih (i + 1) f M1 L1 hT1 (fun w hw => by rw [hL 5 w (by decide)]; exact hW w hw) (by omega) (by omega) hk' hC (fun _ => Or.inr trivial) (by omega)
          exact ⟨m, M', L', g1, g2, g3, hE.tr g4, fun c j h => (g5 c j h).trans (hL c j h)⟩
theorem c_cut {b : Nat → Nat} {n : Nat} {M : gM} {L : gL} (hT : Tp b n M) (hW : Wdc L) : ∃ m M' L', isLast b n m ∧ F_Tokens_cut M L = some (M', L') ∧ Ck b n m M' L' ∧ Eo (fun c _ => c = 6 ∨ c = 7) M M' ∧ (∀ c j, c ≠ 8 → L' c j = L c j) :=
  c_cutL 401 0 FU M L hT hW rfl (by unfold FU; omega) (fun j h => by omega) (fun j h => by omega) (fun _ => Or.inr trivial) (by omega)
end MG10x1
section MG10x2
/-! the model's tokens -/
def Tx (b : Nat → Nat) (n : Nat) (M : gM) : Prop := M 401 4 = nI n ∧ n ≤ 2000 ∧ ∀ j, j < n → (M 403 j) &&& 255 = nI (b j) ∧ b j ≤ 255
theorem m_byte {b : Nat → Nat} {n i : Nat} {M : gM} (h : Tx b n M) (hi : i < n) : F_Mod_byteAt (nI i) M = some (nI (b i)) := by
  unfold F_Mod_byteAt
  have h2 := h.2.1
  rw [h.1, if_neg (by rw [nI_leI (by omega) (by omega)]; omega), if_neg (nI_in (by omega) (by omega)), nI_clamp (by omega), (h.2.2 i hi).1]
theorem m_byteE {b : Nat → Nat} {n i : Nat} {M : gM} (h : Tx b n M) (hi : n ≤ i) (h31 : i < 2 ^ 31) : F_Mod_byteAt (nI i) M = some (nI 0) := by
  unfold F_Mod_byteAt
  have h2 := h.2.1
  rw [h.1, if_pos (by rw [nI_leI (by omega) (by omega)]; omega)]
  rfl
theorem m_isL {c : Nat} (h : c ≤ 255) : F_Mod_isLetter (nI c) = some (if isLe c = true then 1 else 0) := (by decide +kernel : ∀ c, c < 256 → F_Mod_isLetter (nI c) = some (if isLe c = true then 1 else 0)) c (by omega)
theorem m_isD {c : Nat} (h : c ≤ 255) : F_Mod_isDigit (nI c) = some (if isDi c = true then 1 else 0) := (by decide +kernel : ∀ c, c < 256 → F_Mod_isDigit (nI c) = some (if isDi c = true then 1 else 0)) c (by omega)
def tokM (k : Nat) (kd pl v : Int32) (M : gM) : gM := uM (uM (uM (uM M 404 k kd) 405 k pl) 406 k v) 401 10 (nI (k + 1))
theorem m_token {k : Nat} {kd pl v : Int32} {nm : Int64} {M : gM} {L : gL} (hk : M 401 10 = nI k) (h : k < 403) : F_Mod_token kd pl v nm M L = some (tokM k kd pl v M, uL L 407 k nm) := by
  unfold F_Mod_token
  rw [hk, if_neg (nI_in h (by decide)), nI_clamp (by omega), nmM_e, uM_diff (by omega), hk, if_neg (nI_in h (by decide)), nI_clamp (by omega), nmM_e, uM_diff (by omega), uM_diff (by omega), hk, if_neg (nI_in h (by decide)), nI_clamp (by omega), nmM_e, uM_diff (by omega), uM_diff (by omega), uM_diff (by omega), hk, if_neg (nI_in h (by decide)), nI_clamp (by omega), nmL_e, nmM_e, nI_1]
  rfl
def phi (k : Nat) : Nat := if 128 ≤ k then k - 108 else if k = 0 then 0 else if k = 2 then 1 else if k = 3 then 2 else if k = 59 then 4 else if k = 61 then 5 else if k = 40 then 6 else if k = 41 then 7 else if k = 43 then 8 else if k = 45 then 9 else if k = 42 then 10 else if k = 60 then 13 else if k = 47 then 15 else 3
theorem m_sign {c : Nat} {p d : Int32} {M : gM} {L : gL} (h : c ≤ 255) : F_Mod_sign p (nI c) d M L = bI2 (F_Mod_token (nI (phi (if isSg c = true then c else 1))) p 0 0 M L) (fun M' L' => some (1, M', L')) := by
  have e : ∀ k : Nat, k ≤ 255 → ((nI c = nI k) = (c = k)) := fun k hk => propext (nI_eq (by omega) (by omega))
  have e1 : (nI c = 59) = (c = 59) := e 59 (by decide)
  have e2 : (nI c = 61) = (c = 61) := e 61 (by decide)
  have e3 : (nI c = 40) = (c = 40) := e 40 (by decide)
  have e4 : (nI c = 41) = (c = 41) := e 41 (by decide)
  have e5 : (nI c = 43) = (c = 43) := e 43 (by decide)
  have e6 : (nI c = 45) = (c = 45) := e 45 (by decide)
  have e7 : (nI c = 42) = (c = 42) := e 42 (by decide)
  have e8 : (nI c = 47) = (c = 47) := e 47 (by decide)
  have e9 : (nI c = 60) = (c = 60) := e 60 (by decide)
  unfold F_Mod_sign J_Mod_sign_43 J_Mod_sign_55 J_Mod_sign_65 J_Mod_sign_75 J_Mod_sign_85 J_Mod_sign_95
  simp only [e1, e2, e3, e4, e5, e6, e7, e8, e9]
  by_cases h1 : c = 59
  · subst h1; rfl
  by_cases h2 : c = 61
  · subst h2; rfl
  by_cases h3 : c = 40
  · subst h3; rfl
  by_cases h4 : c = 41
  · subst h4; rfl
  by_cases h5 : c = 43
  · subst h5; rfl
  by_cases h6 : c = 45
  · subst h6; rfl
  by_cases h7 : c = 42
  · subst h7; rfl
  by_cases h8 : c = 47
  · subst h8; rfl
  by_cases h9 : c = 60
  · subst h9; rfl
  simp only [if_neg h1, if_neg h2, if_neg h3, if_neg h4, if_neg h5, if_neg h6, if_neg h7, if_neg h8, if_neg h9]
  have hs : isSg c = false := by simp [isSg, h1, h2, h3, h4, h5, h6, h7, h8, h9]
  rw [hs]
  rfl
theorem m_app {c e : Nat} (h : 97 ≤ c ∧ c ≤ 122) : F_Mod_appends (lN e) (nI c) = some (lN (e * 27 + (c - 96))) := by
  unfold F_Mod_appends
  rw [if_neg (nI_ne0 (by omega) (by omega)), show (97 : Int32) = nI 97 from rfl, nI_sub h.1, nI_1, nI_l (by omega), show (27 : Int64) = lN 27 from rfl, lN_mul, lN_add]
  congr 2
  rw [Nat.mul_comm 27 e]
  omega
def Wdm (L : gL) : Prop := ∀ w, w < 21 → L 408 w = lN (enc 27 (kwAt w))
theorem kw_ne : ∀ w, w < 21 → ∀ w', w' < 21 → kwAt w = kwAt w' → w = w' := by decide +kernel
theorem kwF_at {l : List Nat} : ∀ d w, kwF l d w < w + d → kwAt (kwF l d w) = l := by
  intro d
  induction d with
  | zero => intro w h; have : kwF l 0 w = w := rfl; omega
  | succ d ih =>
    intro w h
    unfold kwF at h ⊢
    by_cases he : kwAt w = l
    · rw [if_pos he]; exact he
    · rw [if_neg he] at h ⊢
      exact ih (w + 1) (by omega)
theorem kwF_no {l : List Nat} : ∀ d w j, w ≤ j → j < kwF l d w → kwAt j ≠ l := by
  intro d
  induction d with
  | zero => intro w j h1 h2; have : kwF l 0 w = w := rfl; omega
  | succ d ih =>
    intro w j h1 h2
    unfold kwF at h2
    by_cases he : kwAt w = l
    · rw [if_pos he] at h2; omega
    · rw [if_neg he] at h2
      rcases Nat.lt_or_ge w j with g | g
      · exact ih (w + 1) j (by omega) h2
      · rw [show j = w by omega]; exact he
theorem m_keysL {l : List Nat} {M : gM} {L : gL} {K7 : Int32 → gM → gL → Option (gM × gL)} {v1 v3 : Int32} (hW : Wdm L) (hl : l.length ≤ 8) (hc : ∀ c ∈ l, 1 ≤ c ∧ c ≤ 26) : ∀ (d w f : Nat) (x : Int32), w + d = 21 → d < f →
    ((∀ j, j < w → kwAt j ≠ l) ∧ x = 1 ∨ (∃ j, j < w ∧ kwAt j = l ∧ x = nI (20 + j))) → H_Mod_cut_146 K7 v1 v3 (lN (enc 27 l)) M L f x (nI w) = J_Mod_cut_179 K7 v1 v3 (lN (enc 27 l)) (nI (phi (kwk l))) M L := by
  intro d
  have fin : ∀ x : Int32, ((∀ j, j < 21 → kwAt j ≠ l) ∧ x = 1 ∨ (∃ j, j < 21 ∧ kwAt j = l ∧ x = nI (20 + j))) → x = nI (phi (kwk l)) := by
    intro x h
    unfold kwk
    rcases h with ⟨h1, rfl⟩ | ⟨j, hj, h1, rfl⟩
    · rw [if_neg (fun q => h1 _ q (kwF_at 21 0 (by omega)))]
      rfl
    · have hk : kwF l 21 0 = j := by
        have a1 := (kwF_le l 21 0).2
        rcases Nat.lt_trichotomy (kwF l 21 0) j with g | g | g
        · exact kw_ne _ (by omega) _ hj ((kwF_at 21 0 (by omega)).trans h1.symm)
        · exact g
        · exact absurd h1 (kwF_no 21 0 j (by omega) g)
      rw [hk, if_pos hj]
      unfold phi
      rw [if_pos (by omega)]
      congr 1
      omega
  induction d with
  | zero =>
    intro w f x hd hf hx
    obtain ⟨f, rfl⟩ : ∃ g, f = g + 1 := ⟨f - 1, by omega⟩
    obtain rfl : w = 21 := by omega
    show B_Mod_cut_146 K7 v1 v3 (lN (enc 27 l)) M L (H_Mod_cut_146 K7 v1 v3 (lN (enc 27 l)) M L f) x (nI 21) = _
    unfold B_Mod_cut_146
    rw [if_pos (by decide), fin x hx]
  | succ d ih =>
    intro w f x hd hf hx
    obtain ⟨f, rfl⟩ : ∃ g, f = g + 1 := ⟨f - 1, by omega⟩
    show B_Mod_cut_146 K7 v1 v3 (lN (enc 27 l)) M L (H_Mod_cut_146 K7 v1 v3 (lN (enc 27 l)) M L f) x (nI w) = _
    unfold B_Mod_cut_146
    rw [if_neg (by rw [show (21 : Int32) = nI 21 from rfl, nI_leI (by omega) (by omega)]; omega), if_neg (nI_in (by omega) (by decide)), nI_clamp (by omega), hW w (by omega)]
    by_cases he : kwAt w = l
    · rw [if_pos ((lg_cmp_eq _ _).mpr (by rw [he])), nmI_e]
      unfold J_Mod_cut_173
      rw [nmI_e, nI_1, show (20 : Int32) = nI 20 from rfl, nI_add]
      exact ih (w + 1) f _ (by omega) (by omega) (Or.inr ⟨w, by omega, he, rfl⟩)
    · rw [if_neg (fun q => he (enc_inj (by decide) _ _ _ rfl (kw_ok w (by omega)).2 hc (lN_inj (enc27_lt (kw_ok w (by omega)).1 (kw_ok w (by omega)).2) (enc27_lt hl hc) ((lg_cmp_eq _ _).mp q))))]
      unfold J_Mod_cut_173
      rw [nmI_e, nI_1]
      refine ih (w + 1) f _ (by omega) (by omega) ?_
      rcases hx with ⟨h1, h2⟩ | ⟨j, h1, h2, h3⟩
      · refine Or.inl ⟨fun j hj => ?_, h2⟩
        rcases Nat.lt_or_ge j w with g | g
        · exact h1 j g
        · rw [show j = w by omega]; exact he
      · exact Or.inr ⟨j, by omega, h2, h3⟩
theorem m_lettersL {b : Nat → Nat} {n p : Nat} {M : gM} {L : gL} {K7 : Int32 → gM → gL → Option (gM × gL)} (h : Tx b n M) (hp : p ≤ n) : ∀ (d k f : Nat), rnE isLe b n p - p - k = d → k ≤ rnE isLe b n p - p → d < f → H_Mod_cut_85 K7 (nI p) M L f (nI k) (lN (enc 27 (lets b p (min k 8)))) = J_Mod_cut_124 K7 (nI p) (nI (rnE isLe b n p - p)) (lN (enc 27 (lets b p (min (rnE isLe b n p - p) 8)))) M L := by
  have h2 := h.2.1
  obtain ⟨r1, r2, r3, r4⟩ := rnE_ge (p := isLe) (b := b) (n := n) _ p rfl
  have r2 := r2 hp
  intro d
  induction d with
  | zero =>
    intro k f hd hk hf
    obtain ⟨f, rfl⟩ : ∃ g, f = g + 1 := ⟨f - 1, by omega⟩
    obtain rfl : k = rnE isLe b n p - p := by omega
    show B_Mod_cut_85 K7 (nI p) M L (H_Mod_cut_85 K7 (nI p) M L f) _ _ = _
    unfold B_Mod_cut_85
    rw [nI_add, show p + (rnE isLe b n p - p) = rnE isLe b n p by omega]
    rcases Nat.lt_or_ge (rnE isLe b n p) n with w | w
    · have hb := (h.2.2 _ w).2
      rw [m_byte h w, bI_s, m_isL hb, bI_s, if_neg (fun q => r4 ⟨w, q⟩), if_pos rfl]
    · rw [m_byteE h w (by omega), bI_s, m_isL (by decide), bI_s]
      rfl
  | succ d ih =>
    intro k f hd hk hf
    obtain ⟨f, rfl⟩ : ∃ g, f = g + 1 := ⟨f - 1, by omega⟩
    have hq := r3 (p + k) (by omega) (by omega)
    have hb := (h.2.2 _ hq.1).2
    show B_Mod_cut_85 K7 (nI p) M L (H_Mod_cut_85 K7 (nI p) M L f) _ _ = _
    unfold B_Mod_cut_85
    rw [nI_add, m_byte h hq.1, bI_s, m_isL hb, bI_s, if_pos hq.2, if_neg (by decide)]
    unfold J_Mod_cut_118
    by_cases h8 : 8 ≤ k
    · rw [if_pos (by rw [show (8 : Int32) = nI 8 from rfl, nI_leI (by omega) (by omega)]; omega), nmI_e, nI_1]
      have := ih (k + 1) f (by omega) (by omega) (by omega)
      rw [show min (k + 1) 8 = min k 8 by omega] at this
      exact this
    · rw [if_neg (by rw [show (8 : Int32) = nI 8 from rfl, nI_leI (by omega) (by omega)]; omega), bI_s, m_app (le_iff.mp hq.2), bI_s, nmI_e, nI_1]
      have := ih (k + 1) f (by omega) (by omega) (by omega)
      rw [show min (k + 1) 8 = k + 1 by omega, lets_s, enc_s] at this
      rw [show min k 8 = k by omega]
      exact this
theorem m_digL {b : Nat → Nat} {n p : Nat} {M : gM} {L : gL} {K7 : Int32 → gM → gL → Option (gM × gL)} (h : Tx b n M) (hp : p ≤ n) : ∀ (d k f : Nat), rnE isDi b n p - p - k = d → k ≤ rnE isDi b n p - p → d < f → H_Mod_cut_208 K7 (nI p) M L f (nI k) (nI (enc 10 (digs b p (min k 4)))) = J_Mod_cut_250 K7 (nI p) (nI (rnE isDi b n p - p)) (nI (enc 10 (digs b p (min (rnE isDi b n p - p) 4)))) M L := by
  have h2 := h.2.1
  obtain ⟨r1, r2, r3, r4⟩ := rnE_ge (p := isDi) (b := b) (n := n) _ p rfl
  have r2 := r2 hp
  intro d
  induction d with
  | zero =>
    intro k f hd hk hf
    obtain ⟨f, rfl⟩ : ∃ g, f = g + 1 := ⟨f - 1, by omega⟩
    obtain rfl : k = rnE isDi b n p - p := by omega
    show B_Mod_cut_208 K7 (nI p) M L (H_Mod_cut_208 K7 (nI p) M L f) _ _ = _
    unfold B_Mod_cut_208
    rw [nI_add, show p + (rnE isDi b n p - p) = rnE isDi b n p by omega]
    rcases Nat.lt_or_ge (rnE isDi b n p) n with w | w
    · have hb := (h.2.2 _ w).2
      rw [m_byte h w, bI_s, m_isD hb, bI_s, if_neg (fun q => r4 ⟨w, q⟩), if_pos rfl]
    · rw [m_byteE h w (by omega), bI_s, m_isD (by decide), bI_s]
      rfl
  | succ d ih =>
    intro k f hd hk hf
    obtain ⟨f, rfl⟩ : ∃ g, f = g + 1 := ⟨f - 1, by omega⟩
    have hq := r3 (p + k) (by omega) (by omega)
    have hb := (h.2.2 _ hq.1).2
    have hdi := di_iff.mp hq.2
    show B_Mod_cut_208 K7 (nI p) M L (H_Mod_cut_208 K7 (nI p) M L f) _ _ = _
    unfold B_Mod_cut_208
    rw [nI_add, m_byte h hq.1, bI_s, m_isD hb, bI_s, if_pos hq.2, if_neg (by decide)]
    unfold J_Mod_cut_244
    by_cases h8 : 4 ≤ k
    · rw [if_pos (by rw [show (4 : Int32) = nI 4 from rfl, nI_leI (by omega) (by omega)]; omega), nmI_e, nI_1]
      have := ih (k + 1) f (by omega) (by omega) (by omega)
      rw [show min (k + 1) 4 = min k 4 by omega] at this
      exact this
    · rw [if_neg (by rw [show (4 : Int32) = nI 4 from rfl, nI_leI (by omega) (by omega)]; omega), bI_s, nmI_e, nmI_e, nI_1]
      have := ih (k + 1) f (by omega) (by omega) (by omega)
      rw [show min (k + 1) 4 = k + 1 by omega, digs_s, enc_s] at this
      rw [show min k 4 = k by omega, show (10 : Int32) = nI 10 from rfl, nI_mul, nI_add, show (48 : Int32) = nI 48 from rfl, nI_sub (by omega), show 10 * enc 10 (digs b p k) + b (p + k) - 48 = enc 10 (digs b p k) * 10 + (b (p + k) - 48) by omega]
      exact this
/-- the model's tokens below m are the text's -/
def Ckm (b : Nat → Nat) (n m : Nat) (M : gM) (L : gL) : Prop := ∀ i, i < m → M 404 i = nI (phi (tkK b n i)) ∧ M 405 i = nI (tkF b n i) ∧ (tkK b n i = 3 → M 406 i = nI (tkV b n i)) ∧ (tkK b n i = 2 → L 407 i = lN (enc 27 (tokL b n (tkF b n i))))
def tkS (c j : Nat) : Prop := c = 404 ∨ c = 405 ∨ c = 406 ∨ (c = 401 ∧ j = 10)
theorem m_put {b : Nat → Nat} {n i : Nat} {kd pl v : Int32} {nm : Int64} {M : gM} {L : gL} (hc : Ckm b n i M L) (h1 : kd = nI (phi (tkK b n i))) (h2 : pl = nI (tkF b n i)) (h3 : tkK b n i = 3 → v = nI (tkV b n i)) (h4 : tkK b n i = 2 → nm = lN (enc 27 (tokL b n (tkF b n i)))) : Ckm b n (i + 1) (tokM i kd pl v M) (uL L 407 i nm) := by
  intro j hj
  unfold tokM
  by_cases hji : j = i
  · subst hji
    exact ⟨by rw [uM_diff (by omega), uM_diff (by omega), uM_diff (by omega), uM_same, h1], by rw [uM_diff (by omega), uM_diff (by omega), uM_same, h2], fun q => by rw [uM_diff (by omega), uM_same, h3 q], fun q => by rw [uL_at, if_pos ⟨rfl, rfl⟩, h4 q]⟩
  · obtain ⟨a1, a2, a3, a4⟩ := hc j (by omega)
    exact ⟨by rw [uM_diff (by omega), uM_diff (by omega), uM_diff (by omega), uM_diff (by omega), a1], by rw [uM_diff (by omega), uM_diff (by omega), uM_diff (by omega), uM_diff (by omega), a2], fun q => by rw [uM_diff (by omega), uM_diff (by omega), uM_diff (by omega), uM_diff (by omega), a3 q], fun q => by rw [uL_at, if_neg (fun w => hji w.2), a4 q]⟩
theorem tokM_E {i : Nat} {kd pl v : Int32} {M : gM} : Eo tkS M (tokM i kd pl v M) := (((Eo.rf.u (Or.inl rfl)).u (Or.inr (Or.inl rfl))).u (Or.inr (Or.inr (Or.inl rfl)))).u (Or.inr (Or.inr (Or.inr ⟨rfl, rfl⟩)))
theorem Tx.keep {b : Nat → Nat} {n : Nat} {M M' : gM} (h : Tx b n M) (hE : Eo tkS M M') : Tx b n M' := by
  refine ⟨?_, h.2.1, fun j hj => ⟨?_, (h.2.2 j hj).2⟩⟩
  · rw [hE 401 4 (by unfold tkS; omega)]; exact h.1
  · rw [hE 403 j (by unfold tkS; omega)]; exact (h.2.2 j hj).1
theorem m_cutL {b : Nat → Nat} {n : Nat} : ∀ (d p i f : Nat) (M : gM) (L : gL), n - p ≤ d → p ≤ n → i ≤ 401 → rnE isBl b n p = tkF b n i → d + 2 ≤ f → Tx b n M → Wdm L → M 401 10 = nI i → Ckm b n i M L → (∀ j, j < i → tkK b n j ≠ 0) →
    ∃ m M' L', H_Mod_cut_7 f (nI p) M L = some (M', L') ∧ (m ≤ 401 ∧ (m = 401 ∨ 0 < m ∧ tkK b n (m - 1) = 0)) ∧ Ckm b n m M' L' ∧ Eo tkS M M' ∧ (∀ c j, c ≠ 407 → L' c j = L c j) := by
  intro d
  induction d with
  | zero =>
    intro p i f M L hd hp hi hr hf hT hW hk hC h0
    obtain ⟨f, rfl⟩ : ∃ g, f = g + 1 := ⟨f - 1, by omega⟩
    have h2 := hT.2.1
    obtain rfl : p = n := by omega
    show ∃ m M' L', B_Mod_cut_7 (H_Mod_cut_7 f) (nI p) M L = some (M', L') ∧ _
    unfold B_Mod_cut_7
    rw [hk]
    by_cases h401 : i = 401
    · rw [if_pos (by rw [show (400 : Int32) = nI 400 from rfl, nI_ltI (by omega) (by omega)]; omega)]
      exact ⟨i, M, L, rfl, ⟨hi, Or.inl h401⟩, hC, Eo.rf, fun _ _ _ => rfl⟩
    · rw [if_neg (by rw [show (400 : Int32) = nI 400 from rfl, nI_ltI (by omega) (by omega)]; omega), m_byteE hT (Nat.le_refl _) (by omega), bI_s, hT.1, if_neg (by rw [nI_ltI (by omega) (by omega)]; omega)]
      unfold J_Mod_cut_31
      rw [hT.1, m_token hk (by omega)]
      have hF : tkF b p i = p := by rw [← hr, rnE_no (by omega)]
      have hK : tkK b p i = 0 := by unfold tkK; rw [hF, tokAt_0 (Nat.le_refl _)]
      exact ⟨i + 1, _, _, rfl, ⟨by omega, Or.inr ⟨by omega, hK⟩⟩, m_put hC (by rw [hK]; rfl) (by rw [hF]) (fun q => by rw [hK] at q; omega) (fun q => by rw [hK] at q; omega), tokM_E, fun c j h => by rw [uL_ne _ _ _ h]⟩
  | succ d ih =>
    intro p i f M L hd hp hi hr hf hT hW hk hC h0
    rcases Nat.lt_or_ge p n with hpn | hpn
    case inr =>
      -- as at the end
      have hf1 : ∃ g, f = g + 1 := ⟨f - 1, by omega⟩
      obtain ⟨f, rfl⟩ := hf1
      have h2 := hT.2.1
      obtain rfl : p = n := by omega
      show ∃ m M' L', B_Mod_cut_7 (H_Mod_cut_7 f) (nI p) M L = some (M', L') ∧ _
      unfold B_Mod_cut_7
      rw [hk]
      by_cases h401 : i = 401
      · rw [if_pos (by rw [show (400 : Int32) = nI 400 from rfl, nI_ltI (by omega) (by omega)]; omega)]
        exact ⟨i, M, L, rfl, ⟨hi, Or.inl h401⟩, hC, Eo.rf, fun _ _ _ => rfl⟩
      · rw [if_neg (by rw [show (400 : Int32) = nI 400 from rfl, nI_ltI (by omega) (by omega)]; omega), m_byteE hT (Nat.le_refl _) (by omega), bI_s, hT.1, if_neg (by rw [nI_ltI (by omega) (by omega)]; omega)]
        unfold J_Mod_cut_31
        rw [hT.1, m_token hk (by omega)]
        have hF : tkF b p i = p := by rw [← hr, rnE_no (by omega)]
        have hK : tkK b p i = 0 := by unfold tkK; rw [hF, tokAt_0 (Nat.le_refl _)]
        exact ⟨i + 1, _, _, rfl, ⟨by omega, Or.inr ⟨by omega, hK⟩⟩, m_put hC (by rw [hK]; rfl) (by rw [hF]) (fun q => by rw [hK] at q; omega) (fun q => by rw [hK] at q; omega), tokM_E, fun c j h => by rw [uL_ne _ _ _ h]⟩
    obtain ⟨f, rfl⟩ : ∃ g, f = g + 1 := ⟨f - 1, by omega⟩
    have h2 := hT.2.1
    have hb := (hT.2.2 p hpn).2
    show ∃ m M' L', B_Mod_cut_7 (H_Mod_cut_7 f) (nI p) M L = some (M', L') ∧ _
    unfold B_Mod_cut_7
    rw [hk]
    by_cases h401 : i = 401
    · rw [if_pos (by rw [show (400 : Int32) = nI 400 from rfl, nI_ltI (by omega) (by omega)]; omega)]
      exact ⟨i, M, L, rfl, ⟨hi, Or.inl h401⟩, hC, Eo.rf, fun _ _ _ => rfl⟩
    rw [if_neg (by rw [show (400 : Int32) = nI 400 from rfl, nI_ltI (by omega) (by omega)]; omega), m_byte hT hpn, bI_s, hT.1, if_pos (by rw [nI_ltI (by omega) (by omega)]; omega)]
    have e : ∀ k : Nat, k ≤ 255 → ((nI (b p) = nI k) = (b p = k)) := fun k hk => propext (nI_eq (by omega) (by omega))
    have e1 : (nI (b p) = 9) = (b p = 9) := e 9 (by decide)
    have e2 : (nI (b p) = 10) = (b p = 10) := e 10 (by decide)
    have e3 : (nI (b p) = 13) = (b p = 13) := e 13 (by decide)
    have e4 : (nI (b p) = 32) = (b p = 32) := e 32 (by decide)
    simp only [e1, e2, e3, e4]
    by_cases hbl : isBl (b p) = true
    · have hgo : ∃ m M' L', J_Mod_cut_67 (H_Mod_cut_7 f) (nI p) M L = some (M', L') ∧ (m ≤ 401 ∧ (m = 401 ∨ 0 < m ∧ tkK b n (m - 1) = 0)) ∧ Ckm b n m M' L' ∧ Eo tkS M M' ∧ (∀ c j, c ≠ 407 → L' c j = L c j) := by
        unfold J_Mod_cut_67 J_Mod_cut_291
        rw [nmI_e, nI_1]
        exact ih (p + 1) i f M L (by omega) (by omega) hi (by rw [← hr, rnE_yes hpn hbl]) (by omega) hT hW hk hC h0
      have h4 : b p = 9 ∨ b p = 10 ∨ b p = 13 ∨ b p = 32 := by simpa [isBl, or_assoc] using hbl
      by_cases c1 : b p = 9
      · rw [if_pos c1]; exact hgo
      rw [if_neg c1]
      by_cases c2 : b p = 10
      · rw [if_pos c2]; exact hgo
      rw [if_neg c2]
      by_cases c3 : b p = 13
      · rw [if_pos c3]; exact hgo
      rw [if_neg c3, if_pos (by omega)]
      exact hgo
    have h4 : ¬ (b p = 9 ∨ b p = 10 ∨ b p = 13 ∨ b p = 32) := fun q => hbl (by simpa [isBl, or_assoc] using q)
    rw [if_neg (fun q => h4 (Or.inl q)), if_neg (fun q => h4 (Or.inr (Or.inl q))), if_neg (fun q => h4 (Or.inr (Or.inr (Or.inl q)))), if_neg (fun q => h4 (Or.inr (Or.inr (Or.inr q)))), m_isL hb, bI_s]
    have hF : tkF b n i = p := by rw [← hr, rnE_no (fun q => hbl q.2)]
    -- behind a token
    have hgo : ∀ (kd pl v : Int32) (nm : Int64), kd = nI (phi (tkK b n i)) → pl = nI p → (tkK b n i = 3 → v = nI (tkV b n i)) → (tkK b n i = 2 → nm = lN (enc 27 (tokL b n (tkF b n i)))) → tkK b n i ≠ 0 →
        ∃ m M' L', H_Mod_cut_7 f (nI (tkP b n (i + 1))) (tokM i kd pl v M) (uL L 407 i nm) = some (M', L') ∧ (m ≤ 401 ∧ (m = 401 ∨ 0 < m ∧ tkK b n (m - 1) = 0)) ∧ Ckm b n m M' L' ∧ Eo tkS M M' ∧ (∀ c j, c ≠ 407 → L' c j = L c j) := by
      intro kd pl v nm a1 a2 a3 a4 a5
      have hP : tkP b n (i + 1) = (tokAt b n p).2.2 := by rw [tkP_s, hF]
      have hPP := tokAt_P (b := b) hpn
      rw [← hP] at hPP
      obtain ⟨m, M', L', g1, g2, g3, g4, g5⟩ := ih (tkP b n (i + 1)) (i + 1) f (tokM i kd pl v M) (uL L 407 i nm) (by omega) hPP.2 (by omega) rfl (by omega) (hT.keep tokM_E) (fun w hw => by rw [uL_ne _ _ _ (by decide)]; exact hW w hw) uM_same (m_put hC a1 (by rw [hF]; exact a2) a3 a4) (fun j hj => by
        rcases Nat.lt_or_ge j i with g | g
        · exact h0 j g
        · rw [show j = i by omega]; exact a5)
      exact ⟨m, M', L', g1, g2, g3, tokM_E.tr g4, fun c j h => (g5 c j h).trans (by rw [uL_ne _ _ _ h])⟩
    have hKn : tkK b n i ≠ 0 := by unfold tkK; rw [hF]; exact tokAt_n0 hpn
    by_cases hl : isLe (b p) = true
    · rw [if_pos hl, if_neg (by decide)]
      have r := rnE_ge (p := isLe) (b := b) (n := n) _ p rfl
      have hK : tkK b n i = if rnE isLe b n p - p ≤ 8 then kwk (tokL b n p) else 1 := by unfold tkK tokAt; rw [hF, if_neg (by omega), if_pos hl]
      have hP : tkP b n (i + 1) = rnE isLe b n p := by rw [tkP_s, hF]; unfold tokAt; rw [if_neg (by omega), if_pos hl]
      have r2 := r.2.1 hp
      refine (show ∃ m M' L', H_Mod_cut_85 (H_Mod_cut_7 f) (nI p) M L FU (nI 0) (lN (enc 27 (lets b p (min 0 8)))) = some (M', L') ∧ _ from ?_)
      rw [m_lettersL hT hp _ 0 FU rfl (by omega) (by unfold FU; omega)]
      unfold J_Mod_cut_124 J_Mod_cut_135
      have fin : ∀ (kd : Int32) (nm : Int64), kd = nI (phi (tkK b n i)) → (tkK b n i = 2 → nm = lN (enc 27 (tokL b n (tkF b n i)))) → tkK b n i ≠ 3 → ∃ m M' L', J_Mod_cut_179 (H_Mod_cut_7 f) (nI p) (nI (rnE isLe b n p - p)) nm kd M L = some (M', L') ∧ (m ≤ 401 ∧ (m = 401 ∨ 0 < m ∧ tkK b n (m - 1) = 0)) ∧ Ckm b n m M' L' ∧ Eo tkS M M' ∧ (∀ c j, c ≠ 407 → L' c j = L c j) := by
        intro kd nm a1 a2 a3
        unfold J_Mod_cut_179 J_Mod_cut_291
        rw [m_token hk (by omega)]
        rw [bI2_s, nmI_e, nI_add, show p + (rnE isLe b n p - p) = tkP b n (i + 1) by omega]
        exact hgo _ _ _ _ a1 rfl (fun q => absurd q a3) a2 hKn
      have hkw := kwk_pos (tokL b n p)
      have hk3 : kwk (tokL b n p) ≠ 3 := by unfold kwk; split <;> omega
      by_cases h8 : rnE isLe b n p - p ≤ 8
      · rw [if_pos (by rw [show (8 : Int32) = nI 8 from rfl, nI_leI (by omega) (by omega)]; omega), if_neg (by rw [show (8 : Int32) = nI 8 from rfl, nI_ltI (by omega) (by omega)]; omega), show min (rnE isLe b n p - p) 8 = rnE isLe b n p - p by omega]
        rw [if_pos h8] at hK
        refine (show ∃ m M' L', H_Mod_cut_146 (H_Mod_cut_7 f) (nI p) (nI (rnE isLe b n p - p)) (lN (enc 27 (tokL b n p))) M L FU 1 (nI 0) = some (M', L') ∧ _ from ?_)
        rw [m_keysL (l := tokL b n p) hW (by show (lets b p _).length ≤ 8; rw [lets_len]; exact h8) (lets_ok (Nat.le_refl _)) 21 0 FU 1 rfl (by unfold FU; omega) (Or.inl ⟨fun j h => by omega, rfl⟩)]
        exact fin _ _ (by rw [hK]) (fun _ => by rw [hF]) (by rw [hK]; exact hk3)
      · rw [if_neg (by rw [show (8 : Int32) = nI 8 from rfl, nI_leI (by omega) (by omega)]; omega), if_pos (by rw [show (8 : Int32) = nI 8 from rfl, nI_ltI (by omega) (by omega)]; omega)]
        rw [if_neg h8] at hK
        exact fin _ _ (by rw [hK]; rfl) (fun q => by rw [hK] at q; omega) (by rw [hK]; omega)
    · rw [if_neg hl, if_pos rfl, m_isD hb, bI_s]
      by_cases hdg : isDi (b p) = true
      · rw [if_pos hdg, if_neg (by decide)]
        have r := rnE_ge (p := isDi) (b := b) (n := n) _ p rfl
        have r2 := r.2.1 hp
        have hK : tkK b n i = if rnE isDi b n p - p ≤ 4 then 3 else 1 := by unfold tkK tokAt; rw [hF, if_neg (by omega), if_neg hl, if_pos hdg]
        have hV : tkV b n i = enc 10 (digs b p (rnE isDi b n p - p)) := by unfold tkV tokAt; rw [hF, if_neg (by omega), if_neg hl, if_pos hdg]; rfl
        have hP : tkP b n (i + 1) = rnE isDi b n p := by rw [tkP_s, hF]; unfold tokAt; rw [if_neg (by omega), if_neg hl, if_pos hdg]
        refine (show ∃ m M' L', H_Mod_cut_208 (H_Mod_cut_7 f) (nI p) M L FU (nI 0) (nI (enc 10 (digs b p (min 0 4)))) = some (M', L') ∧ _ from ?_)
        rw [m_digL hT hp _ 0 FU rfl (by omega) (by unfold FU; omega)]
        unfold J_Mod_cut_250 J_Mod_cut_261 J_Mod_cut_291
        rw [m_token hk (by omega), m_token hk (by omega)]
        by_cases h4' : rnE isDi b n p - p ≤ 4
        · rw [if_pos (by rw [show (4 : Int32) = nI 4 from rfl, nI_leI (by omega) (by omega)]; omega), show min (rnE isDi b n p - p) 4 = rnE isDi b n p - p by omega]
          rw [if_pos h4'] at hK
          rw [bI2_s, nmI_e, nI_add, show p + (rnE isDi b n p - p) = tkP b n (i + 1) by omega]
          exact hgo _ _ _ _ (by rw [hK]; rfl) rfl (fun _ => by rw [hV]) (fun q => by rw [hK] at q; omega) hKn
        · rw [if_neg (by rw [show (4 : Int32) = nI 4 from rfl, nI_leI (by omega) (by omega)]; omega)]
          rw [if_neg h4'] at hK
          rw [bI2_s, nmI_e, nI_add, show p + (rnE isDi b n p - p) = tkP b n (i + 1) by omega]
          exact hgo _ _ _ _ (by rw [hK]; rfl) rfl (fun q => by rw [hK] at q; omega) (fun q => by rw [hK] at q; omega) hKn
      · rw [if_neg hdg, if_pos rfl]
        have hK : tkK b n i = if isSg (b p) = true then b p else 1 := by unfold tkK tokAt; rw [hF, if_neg (by omega), if_neg hl, if_neg hdg]
        have hP : tkP b n (i + 1) = p + 1 := by rw [tkP_s, hF]; unfold tokAt; rw [if_neg (by omega), if_neg hl, if_neg hdg]
        obtain ⟨x, hx⟩ : ∃ x, F_Mod_byteAt (nI p + 1) M = some x := by
          rw [nI_1]
          rcases Nat.lt_or_ge (p + 1) n with g | g
          · exact ⟨_, m_byte hT g⟩
          · exact ⟨_, m_byteE hT g (by omega)⟩
        rw [hx, bI_s, m_sign hb, m_token hk (by omega)]
        unfold J_Mod_cut_291
        rw [bI2_s, bI3_s, nmI_e, nI_1, ← hP]
        have hsg : ∀ c, isSg c = true → c ≠ 2 ∧ c ≠ 3 := by
          intro c hc
          constructor <;> (intro q; rw [q] at hc; exact absurd hc (by decide))
        refine hgo _ _ _ _ (by rw [hK]) rfl (fun q => ?_) (fun q => ?_) hKn
        · rw [hK] at q; split at q
          · next g => exact absurd q (hsg _ g).2
          · omega
        · rw [hK] at q; split at q
          · next g => exact absurd q (hsg _ g).1
          · omega
theorem m_cut {b : Nat → Nat} {n : Nat} {M : gM} {L : gL} (hT : Tx b n M) (hW : Wdm L) : ∃ m M' L', F_Mod_cut M L = some (M', L') ∧ (m ≤ 401 ∧ (m = 401 ∨ 0 < m ∧ tkK b n (m - 1) = 0)) ∧ Ckm b n m M' L' ∧ Eo tkS M M' ∧ (∀ c j, c ≠ 407 → L' c j = L c j) := by
  unfold F_Mod_cut
  rw [nmM_e]
  have hE : Eo tkS M (uM M 401 10 0) := Eo.rf.u (Or.inr (Or.inr (Or.inr ⟨rfl, rfl⟩)))
  have h2 := hT.2.1
  obtain ⟨m, M', L', g1, g2, g3, g4, g5⟩ := m_cutL n 0 0 FU (uM M 401 10 0) L (by omega) (by omega) (by omega) rfl (by unfold FU; omega) (hT.keep hE) hW uM_same (fun j h => by omega) (fun j h => by omega)
  exact ⟨m, M', L', g1, g2, g3, hE.tr g4, g5⟩
end MG10x2
section MG10x3
def P3 (c _ : Nat) : Bool := c == 3 || (decide (10 ≤ c) && decide (c < 12))
def PW (x c j : Nat) : Bool := P3 c j || (decide (x ≤ c) && decide (c < x + 2))
def PD (x c j : Nat) : Bool := P3 c j || (decide (x ≤ c) && decide (c < x + 26) && !(c == x + 11) && !(c == x + 15) && !(c == x + 19) && !(c == x + 23))
theorem PD_t {x c j : Nat} : PD x c j = true ↔ (c = 3 ∨ c = 10 ∨ c = 11 ∨ (x ≤ c ∧ c < x + 26 ∧ c ≠ x + 11 ∧ c ≠ x + 15 ∧ c ≠ x + 19 ∧ c ≠ x + 23)) := by
  simp only [PD, P3, Bool.or_eq_true, Bool.and_eq_true, decide_eq_true_eq, beq_iff_eq, Bool.not_eq_true', beq_eq_false_iff_ne]
  omega
theorem PD_n {x c j : Nat} (h : PD x c j = false) : ¬ (c = 3 ∨ c = 10 ∨ c = 11 ∨ (x ≤ c ∧ c < x + 26 ∧ c ≠ x + 11 ∧ c ≠ x + 15 ∧ c ≠ x + 19 ∧ c ≠ x + 23)) := fun q => by
  rw [PD_t.mpr q] at h; cases h
theorem PD_m {x c j : Nat} (h : ¬ (c = 3 ∨ c = 10 ∨ c = 11 ∨ (x ≤ c ∧ c < x + 26 ∧ c ≠ x + 11 ∧ c ≠ x + 15 ∧ c ≠ x + 19 ∧ c ≠ x + 23))) : PD x c j = false := by
  cases e : PD x c j with
  | false => rfl
  | true => exact absurd (PD_t.mp e) h
theorem P3_PW {x : Nat} : ∀ c j, P3 c j = true → PW x c j = true := fun c j h => by unfold PW; rw [h]; rfl
theorem P3_PD {x : Nat} : ∀ c j, P3 c j = true → PD x c j = true := fun c j h => by unfold PD; rw [h]; rfl
theorem PW_PD {x k : Nat} (hk : k = 9 ∨ k = 13 ∨ k = 17 ∨ k = 21) : ∀ c j, PW (x + k) c j = true → PD x c j = true := fun c j h => by
  unfold PW P3 at h
  rw [PD_t]
  simp only [Bool.or_eq_true, Bool.and_eq_true, decide_eq_true_eq, beq_iff_eq] at h
  omega
theorem PW_o {x c j : Nat} (h : x ≤ c ∧ c < x + 2) : PW x c j = true := by simp [PW, h.1, h.2]
theorem PD_o {x c j : Nat} (h : x ≤ c ∧ (c < x + 26 ∧ c ≠ x + 11 ∧ c ≠ x + 15 ∧ c ≠ x + 19 ∧ c ≠ x + 23)) : PD x c j = true := PD_t.mpr (by omega)
/-- what a part of the reader does: it writes in S alone, of the longs in the values and the names alone; a fault that stands stays -/
def Kq (S : Nat → Nat → Bool) (M : gM) (L : gL) (M' : gM) (L' : gL) : Prop := (∀ c j, S c j = false → M' c j = M c j) ∧ (∀ c j, c ≠ 8 → c ≠ 9 → L' c j = L c j) ∧ (M 3 2 ≠ 0 → M' 3 2 = M 3 2 ∧ M' 3 3 = M 3 3)
section KQ
variable {S : Nat → Nat → Bool} {M M1 M2 : gM} {L L1 L2 : gL}
theorem Kq.rf : Kq S M L M L := ⟨fun _ _ _ => rfl, fun _ _ _ _ => rfl, fun _ => ⟨rfl, rfl⟩⟩
theorem Kq.trans (h : Kq S M L M1 L1) (g : Kq S M1 L1 M2 L2) : Kq S M L M2 L2 := ⟨fun c j q => (g.1 c j q).trans (h.1 c j q), fun c j q r => (g.2.1 c j q r).trans (h.2.1 c j q r), fun q => by
  have h3 := h.2.2 q
  have g3 := g.2.2 (by rw [h3.1]; exact q)
  exact ⟨g3.1.trans h3.1, g3.2.trans h3.2⟩⟩
theorem Kq.mono {S' : Nat → Nat → Bool} (h : Kq S M L M1 L1) (f : ∀ c j, S c j = true → S' c j = true) : Kq S' M L M1 L1 := ⟨fun c j q => h.1 c j (by
  cases e : S c j with
  | false => rfl
  | true => rw [f c j e] at q; cases q), h.2.1, h.2.2⟩
theorem Kq.wM {a i : Nat} {x : Int32} (h : Kq S M L M1 L1) (ha : S a i = true) (hn : ¬ (a = 3 ∧ (i = 2 ∨ i = 3))) (e : M2 = uM M1 a i x) : Kq S M L M2 L1 := by
  subst e
  refine h.trans ⟨fun c j q => uM_diff (fun w => by rw [w.1, w.2, ha] at q; cases q), fun _ _ _ _ => rfl, fun _ => ⟨uM_diff (by omega), uM_diff (by omega)⟩⟩
theorem Kq.wL {i : Nat} {x : Int64} (h : Kq S M L M1 L1) (e : L2 = uL L1 9 i x) : Kq S M L M1 L2 := by
  subst e
  exact ⟨h.1, fun c j q r => by rw [uL_ne _ _ _ r]; exact h.2.1 c j q r, h.2.2⟩
theorem Kq.one {a : Nat} (h : Kl (oneL a) M zL M1 zL) (ha : ∀ j, S a j = true) (hn : a ≠ 3) : Kq S M L M1 L := ⟨fun c j q => Kl.m h (by
  unfold oneL
  rw [beq_eq_false_iff_ne]
  intro w
  rw [w, ha] at q; cases q), fun _ _ _ _ => rfl, fun _ => ⟨Kl.m h (by unfold oneL; rw [beq_eq_false_iff_ne]; omega), Kl.m h (by unfold oneL; rw [beq_eq_false_iff_ne]; omega)⟩⟩
end KQ
theorem La_12 {x : Nat} (h : isLa x) : 12 ≤ x := (by decide +kernel : ∀ x ∈ lLa, 12 ≤ x) x h
theorem Lw_12 {x : Nat} (h : isLw x) : 12 ≤ x := (by decide +kernel : ∀ x ∈ lLw, 12 ≤ x) x h
theorem tq_Reader_stop {p1 : Int32} {M : gM} {L : gL} : ∃ M', F_Reader_stop p1 M = some M' ∧ Kq P3 M L M' L := by
  unfold F_Reader_stop
  by_cases h : M 3 2 = 0
  · rw [if_pos h]
    refine ⟨_, rfl, fun c j q => ?_, fun _ _ _ _ => rfl, fun q => absurd h q⟩
    have hc : c ≠ 3 := fun w => by rw [w, (rfl : P3 3 j = true)] at q; cases q
    rw [uM_diff (fun w => hc w.1), uM_diff (fun w => hc w.1)]
  · rw [if_neg h]
    exact ⟨_, rfl, Kq.rf⟩
set_option maxHeartbeats 4000000 in
set_option maxRecDepth 20000 in
theorem tq_Law_add {Wl0 : Nat} {p1 : Int32} {M : gM} {L : gL} (hWl0 : isLw Wl0) : ∃ M', F_Law_add Wl0 p1 M = some M' ∧ Kq (PW Wl0) M L M' L := by
  show Ok _ _
  unfold F_Law_add
  refine Ok.ite (fun h1 => ?_) (fun h1 => ?_)
  · exact ⟨_, rfl, Kq.rf⟩
  · refine Ok.ite (fun h2 => ?_) (fun h2 => ?_)
    · exact ⟨_, rfl, Kq.rf⟩
    · refine Ok.gd (vin_of h1 h2 (by decide)) ?_
      refine Ok.nmM (fun M3 eM3 => ?_)
      refine Ok.nmM (fun M4 eM4 => ?_)
      exact ⟨_, rfl, (Kq.wM (Kq.wM Kq.rf (PW_o ⟨by omega, by omega⟩) (fun q => absurd q.1 (by have := Lw_12 hWl0; omega)) eM3) (PW_o ⟨by omega, by omega⟩) (fun q => absurd q.1 (by have := Lw_12 hWl0; omega)) eM4)⟩
set_option maxHeartbeats 4000000 in
set_option maxRecDepth 20000 in
theorem tq_Law_clear {Wl0 : Nat} {M : gM} {L : gL} (hWl0 : isLw Wl0) : ∃ M', F_Law_clear Wl0 M = some M' ∧ Kq (PW Wl0) M L M' L := by
  show Ok _ _
  unfold F_Law_clear
  refine Ok.nmM (fun M5 eM5 => ?_)
  exact ⟨_, rfl, (Kq.wM Kq.rf (PW_o ⟨by omega, by omega⟩) (fun q => absurd q.1 (by have := Lw_12 hWl0; omega)) eM5)⟩
set_option maxHeartbeats 4000000 in
set_option maxRecDepth 20000 in
theorem tq_Reader_indexOf {p1 : Int64} {M : gM} {L : gL} : ∃ r, F_Reader_indexOf p1 M L = some r ∧ True := by
  show Ok _ _
  unfold F_Reader_indexOf
  have LP9 : ∀ (f6 : Nat) (v10 : Int32), ¬ v10 < 0 → ((M 3 8).toInt - v10.toInt).toNat < f6 → Ok (H_Reader_indexOf_2 p1 M L f6 v10) (fun r => True) := by
    intro f6
    induction f6 with
    | zero => intro v10 _ hm8; exact absurd hm8 (Nat.not_lt_zero _)
    | succ f6 ih7 =>
      intro v10 n11 hm8
      show Ok (B_Reader_indexOf_2 p1 M L (H_Reader_indexOf_2 p1 M L f6) v10) _
      unfold B_Reader_indexOf_2
      refine Ok.ite (fun h12 => ?_) (fun h12 => ?_)
      · exact ⟨_, rfl, trivial⟩
      · refine Ok.ite (fun h13 => ?_) (fun h13 => ?_)
        · exact ⟨_, rfl, trivial⟩
        · refine Ok.gd (vin_of n11 h13 (by decide)) ?_
          refine Ok.ite (fun h14 => ?_) (fun h14 => ?_)
          · exact ⟨_, rfl, trivial⟩
          · refine Ok.nmI (fun x15 ex15 => ?_)
            exact ih7 x15 (nn_up (y := (M 3 8)) h12 ex15 n11) (md_up h12 ex15 hm8)
  exact LP9 _ 0 (by decide) fu_up
set_option maxHeartbeats 4000000 in
set_option maxRecDepth 20000 in
theorem tq_Reader_rank {p1 : Int32}  : ∃ r, F_Reader_rank p1 = some r ∧ True := by
  show Ok _ _
  unfold F_Reader_rank
  refine Ok.ite (fun h16 => ?_) (fun h16 => ?_)
  · exact ⟨_, rfl, trivial⟩
  · refine Ok.ite (fun h17 => ?_) (fun h17 => ?_)
    · exact ⟨_, rfl, trivial⟩
    · refine Ok.ite (fun h18 => ?_) (fun h18 => ?_)
      · unfold J_Reader_rank_26
        exact ⟨_, rfl, trivial⟩
      · refine Ok.ite (fun h19 => ?_) (fun h19 => ?_)
        · unfold J_Reader_rank_26
          exact ⟨_, rfl, trivial⟩
        · exact ⟨_, rfl, trivial⟩
set_option maxHeartbeats 4000000 in
set_option maxRecDepth 20000 in
theorem tq_Reader_stopLate {p1 : Int32} {M : gM} {L : gL} : ∃ M', F_Reader_stopLate p1 M = some M' ∧ Kq P3 M L M' L := by
  show Ok _ _
  unfold F_Reader_stopLate
  refine Ok.ite (fun h20 => ?_) (fun h20 => ?_)
  · refine Ok.nmM (fun M21 eM21 => ?_)
    refine Ok.nmM (fun M22 eM22 => ?_)
    exact ⟨_, rfl, (Kq.wM (Kq.wM Kq.rf (rfl) (by decide) eM21) (rfl) (by decide) eM22)⟩
  · exact ⟨_, rfl, Kq.rf⟩
set_option maxHeartbeats 4000000 in
set_option maxRecDepth 20000 in
theorem tq_Tokens_valueAt {p1 : Int32} {L : gL} : ∃ r, F_Tokens_valueAt p1 L = some r ∧ True := by
  show Ok _ _
  unfold F_Tokens_valueAt
  refine Ok.ite (fun h23 => ?_) (fun h23 => ?_)
  · exact ⟨_, rfl, trivial⟩
  · refine Ok.ite (fun h24 => ?_) (fun h24 => ?_)
    · exact ⟨_, rfl, trivial⟩
    · refine Ok.gd (vin_of h23 h24 (by decide)) ?_
      exact ⟨_, rfl, trivial⟩
set_option maxHeartbeats 4000000 in
set_option maxRecDepth 20000 in
theorem tq_Land_clear {Ld0 : Nat} {M : gM} {L : gL} (hLd0 : isLa Ld0) : ∃ M', F_Land_clear Ld0 M = some M' ∧ Kq (PD Ld0) M L M' L := by
  show Ok _ _
  unfold F_Land_clear
  refine Ok.nmM (fun M25 eM25 => ?_)
  refine Ok.nmM (fun M26 eM26 => ?_)
  refine Ok.nmM (fun M27 eM27 => ?_)
  refine Ok.nmM (fun M28 eM28 => ?_)
  refine Ok.nmM (fun M29 eM29 => ?_)
  refine Ok.c1 (tf_Main_wipe (by decide)) (fun M30 k31 => ?_)
  refine Ok.c1 (tq_Law_clear (L := L) (isLw_9 hLd0)) (fun M32 k33 => ?_)
  refine Ok.c1 (tq_Law_clear (L := L) (isLw_13 hLd0)) (fun M34 k35 => ?_)
  refine Ok.c1 (tq_Law_clear (L := L) (isLw_17 hLd0)) (fun M36 k37 => ?_)
  refine Ok.c1 (tq_Law_clear (L := L) (isLw_21 hLd0)) (fun M38 k39 => ?_)
  exact ⟨_, rfl, (Kq.trans (Kq.trans (Kq.trans (Kq.trans (Kq.trans (Kq.wM (Kq.wM (Kq.wM (Kq.wM (Kq.wM Kq.rf (PD_o ⟨by omega, by omega⟩) (fun q => absurd q.1 (by have := La_12 hLd0; omega)) eM25) (PD_o ⟨by omega, by omega⟩) (fun q => absurd q.1 (by have := La_12 hLd0; omega)) eM26) (PD_o ⟨by omega, by omega⟩) (fun q => absurd q.1 (by have := La_12 hLd0; omega)) eM27) (PD_o ⟨by omega, by omega⟩) (fun q => absurd q.1 (by have := La_12 hLd0; omega)) eM28) (PD_o ⟨by omega, by omega⟩) (fun q => absurd q.1 (by have := La_12 hLd0; omega)) eM29) (Kq.one k31 (fun _ => PD_o ⟨by omega, by omega⟩) (by have := La_12 hLd0; omega))) (Kq.mono k33 (PW_PD (k := 9) (by decide)))) (Kq.mono k35 (PW_PD (k := 13) (by decide)))) (Kq.mono k37 (PW_PD (k := 17) (by decide)))) (Kq.mono k39 (PW_PD (k := 21) (by decide))))⟩
set_option maxHeartbeats 4000000 in
set_option maxRecDepth 20000 in
theorem tq_Law_closeIf {Wl0 : Nat} {p1 : Int32} {M : gM} {L : gL} (hWl0 : isLw Wl0) : ∃ M', F_Law_closeIf Wl0 p1 M = some M' ∧ Kq (PW Wl0) M L M' L := by
  show Ok _ _
  unfold F_Law_closeIf
  refine Ok.c1 (tq_Law_add (L := L) hWl0) (fun M40 k41 => ?_)
  refine Ok.c1 (tf_Main_put (by decide)) (fun M42 k43 => ?_)
  exact ⟨_, rfl, (Kq.trans (Kq.trans Kq.rf k41) (Kq.one k43 (fun _ => PW_o ⟨by omega, by omega⟩) (by have := Lw_12 hWl0; omega)))⟩
set_option maxHeartbeats 4000000 in
set_option maxRecDepth 20000 in
theorem tq_Law_openIf {Wl0 : Nat} {M : gM} {L : gL} (hWl0 : isLw Wl0) : ∃ r M', F_Law_openIf Wl0 M = some (r, M') ∧ True ∧ Kq (PW Wl0) M L M' L := by
  refine Ok.x2 (A := fun r M' => True ∧ Kq (PW Wl0) M L M' L) ?_
  unfold F_Law_openIf
  refine Ok.c1 (tq_Law_add (L := L) hWl0) (fun M44 k45 => ?_)
  refine Ok.c1 (tq_Law_add (L := L) hWl0) (fun M46 k47 => ?_)
  exact ⟨_, rfl, trivial, (Kq.trans (Kq.trans Kq.rf k45) k47)⟩
set_option maxHeartbeats 4000000 in
set_option maxRecDepth 20000 in
theorem tq_Reader_holdSign {p1 : Int32} {M : gM} {L : gL} : ∃ M', F_Reader_holdSign p1 M = some M' ∧ Kq P3 M L M' L := by
  show Ok _ _
  unfold F_Reader_holdSign
  refine Ok.c1 (tf_Main_put (by decide)) (fun M48 k49 => ?_)
  refine Ok.nmM (fun M50 eM50 => ?_)
  exact ⟨_, rfl, (Kq.wM (Kq.trans Kq.rf (Kq.one k49 (fun _ => rfl) (by decide))) (rfl) (by decide) eM50)⟩
set_option maxHeartbeats 4000000 in
set_option maxRecDepth 20000 in
theorem tq_Reader_is {p1 : Int32} {M : gM}  : ∃ r, F_Reader_is p1 M = some r ∧ (r = 0 ∨ r = 1) := by
  show Ok _ _
  unfold F_Reader_is
  refine Ok.c1 (tf_Main_at (by decide)) (fun r51 _ => ?_)
  refine Ok.ite (fun h52 => ?_) (fun h52 => ?_)
  · exact ⟨_, rfl, (Or.inr rfl)⟩
  · exact ⟨_, rfl, (Or.inl rfl)⟩
theorem la_add {Wl : Nat} {x : Int32} {M : gM} : ∃ M', F_Law_add Wl x M = some M' ∧ ∀ c j, c ≠ Wl → c ≠ Wl + 1 → M' c j = M c j := by
  unfold F_Law_add
  by_cases h1 : M Wl 1 < 0
  · rw [if_pos h1]; exact ⟨_, rfl, fun _ _ _ _ => rfl⟩
  rw [if_neg h1]
  by_cases h2 : 400 ≤ M Wl 1
  · rw [if_pos h2]; exact ⟨_, rfl, fun _ _ _ _ => rfl⟩
  rw [if_neg h2, if_neg (vin_of h1 (by exact h2) (by decide) : ¬ (M Wl 1 < 0 ∨ 400 ≤ (M Wl 1).toNatClampNeg)), nmM_e, nmM_e]
  exact ⟨_, rfl, fun c j g1 g2 => by rw [uM_diff (fun q => g1 q.1), uM_diff (fun q => g2 q.1)]⟩
theorem layL {Wl : Nat} {p : Int32} {L : gL} (hW : isLw Wl) : ∀ (f : Nat) (M : gM), (M 3 10).toInt.toNat < f → ∃ M', H_Reader_layHeld_0 Wl p f M = some M' ∧ Kq (PW Wl) M L M' L := by
  have h12 := Lw_12 hW
  intro f
  induction f with
  | zero => intro M h; exact absurd h (Nat.not_lt_zero _)
  | succ f ih =>
    intro M h
    show ∃ M', B_Reader_layHeld_0 Wl p (H_Reader_layHeld_0 Wl p f) M = some M' ∧ _
    unfold B_Reader_layHeld_0
    by_cases h0 : M 3 10 ≤ 0
    · rw [if_pos h0]; exact ⟨_, rfl, Kq.rf⟩
    rw [if_neg h0]
    obtain ⟨r1, e1, -⟩ := tf_Main_at (a1 := 11) (N1 := 32) (p2 := M 3 10 - 1) (M := M) (by decide)
    obtain ⟨r2, e2, -⟩ := tq_Reader_rank (p1 := r1)
    rw [e1, bI_s, e2, bI_s]
    by_cases h2 : r2 < p
    · rw [if_pos h2]; exact ⟨_, rfl, Kq.rf⟩
    rw [if_neg h2, nmM_e]
    obtain ⟨r3, e3, -⟩ := tf_Main_at (a1 := 11) (N1 := 32) (p2 := uM M 3 10 (M 3 10 - 1) 3 10) (M := uM M 3 10 (M 3 10 - 1)) (by decide)
    rw [e3, bI_s]
    obtain ⟨M', e4, h4⟩ := la_add (Wl := Wl) (x := 20000 + r3) (M := uM M 3 10 (M 3 10 - 1))
    obtain ⟨M9, e5, h5⟩ := tq_Law_add (Wl0 := Wl) (p1 := 20000 + r3) (M := uM M 3 10 (M 3 10 - 1)) (L := L) hW
    have e6 : M9 = M' := Option.some.inj (e5.symm.trans e4)
    subst e6
    rw [e4, bI_s]
    have hk : Kq (PW Wl) M L (uM M 3 10 (M 3 10 - 1)) L := Kq.wM Kq.rf (P3_PW _ _ rfl) (by decide) rfl
    obtain ⟨M2, g1, g2⟩ := ih M9 (by
      rw [h4 3 10 (by omega) (by omega), uM_same]
      exact md_lay h0 rfl h)
    exact ⟨M2, g1, (hk.trans h5).trans g2⟩
theorem tq_Reader_layHeld {Wl1 : Nat} {p2 : Int32} {M : gM} {L : gL} (hWl1 : isLw Wl1) : ∃ M', F_Reader_layHeld Wl1 p2 M = some M' ∧ Kq (PW Wl1) M L M' L := layL hWl1 FU M (by have := i_b (M 3 10); unfold FU; omega)

set_option maxHeartbeats 4000000 in
set_option maxRecDepth 20000 in
theorem tq_Reader_take  {M : gM} {L : gL} : ∃ M', F_Reader_take M = some M' ∧ Kq P3 M L M' L := by
  show Ok _ _
  unfold F_Reader_take
  refine Ok.ite (fun h53 => ?_) (fun h53 => ?_)
  · refine Ok.ite (fun h54 => ?_) (fun h54 => ?_)
    · refine Ok.nmM (fun M55 eM55 => ?_)
      exact ⟨_, rfl, (Kq.wM Kq.rf (rfl) (by decide) eM55)⟩
    · refine Ok.c1 (tq_Reader_stop (L := L) ) (fun M56 k57 => ?_)
      exact ⟨_, rfl, (Kq.trans Kq.rf k57)⟩
  · exact ⟨_, rfl, Kq.rf⟩
set_option maxHeartbeats 4000000 in
set_option maxRecDepth 20000 in
theorem tq_Reader_need {p1 : Int32} {M : gM} {L : gL} : ∃ M', F_Reader_need p1 M = some M' ∧ Kq P3 M L M' L := by
  show Ok _ _
  unfold F_Reader_need
  refine Ok.c1 (tq_Reader_is ) (fun r58 hbr58 => ?_)
  refine Ok.ite (fun h59 => ?_) (fun h59 => ?_)
  · refine Ok.c1 (tq_Reader_stop (L := L) ) (fun M60 k61 => ?_)
    exact ⟨_, rfl, (Kq.trans Kq.rf k61)⟩
  · refine Ok.c1 (tq_Reader_take (L := L) ) (fun M62 k63 => ?_)
    exact ⟨_, rfl, (Kq.trans Kq.rf k63)⟩
set_option maxHeartbeats 4000000 in
set_option maxRecDepth 20000 in
theorem tq_Reader_takeClose {Wl1 : Nat} {M : gM} {L : gL} (hWl1 : isLw Wl1) : ∃ M', F_Reader_takeClose Wl1 M = some M' ∧ Kq (PW Wl1) M L M' L := by
  show Ok _ _
  unfold F_Reader_takeClose
  refine Ok.c1 (tq_Reader_is ) (fun r64 hbr64 => ?_)
  refine Ok.ite (fun h65 => ?_) (fun h65 => ?_)
  · refine Ok.c1 (tq_Reader_stop (L := L) ) (fun M66 k67 => ?_)
    exact ⟨_, rfl, (Kq.trans Kq.rf (Kq.mono k67 P3_PW))⟩
  · refine Ok.c1 (tq_Reader_layHeld (L := L) hWl1) (fun M68 k69 => ?_)
    refine Ok.nmM (fun M70 eM70 => ?_)
    refine Ok.nmM (fun M71 eM71 => ?_)
    refine Ok.c1 (tq_Reader_take (L := L) ) (fun M72 k73 => ?_)
    exact ⟨_, rfl, (Kq.trans (Kq.wM (Kq.wM (Kq.trans Kq.rf k69) ((P3_PW _ _ rfl)) (by decide) eM70) ((P3_PW _ _ rfl)) (by decide) eM71) (Kq.mono k73 P3_PW))⟩
set_option maxHeartbeats 4000000 in
set_option maxRecDepth 20000 in
theorem tq_Reader_takeSign {Wl1 : Nat} {M : gM} {L : gL} (hWl1 : isLw Wl1) : ∃ M', F_Reader_takeSign Wl1 M = some M' ∧ Kq (PW Wl1) M L M' L := by
  show Ok _ _
  unfold F_Reader_takeSign
  refine Ok.c1 (tf_Main_at (by decide)) (fun r74 _ => ?_)
  refine Ok.c1 (tq_Reader_rank ) (fun r75 _ => ?_)
  refine Ok.c1 (tq_Reader_layHeld (L := L) hWl1) (fun M76 k77 => ?_)
  refine Ok.c1 (tq_Reader_holdSign (L := L) ) (fun M78 k79 => ?_)
  refine Ok.c1 (tq_Reader_take (L := L) ) (fun M80 k81 => ?_)
  exact ⟨_, rfl, (Kq.trans (Kq.trans (Kq.trans Kq.rf k77) (Kq.mono k79 P3_PW)) (Kq.mono k81 P3_PW))⟩
set_option maxHeartbeats 4000000 in
set_option maxRecDepth 20000 in
theorem tq_Reader_takeUnit {Wl1 : Nat} {M : gM} {L : gL} (hWl1 : isLw Wl1) : ∃ r M', F_Reader_takeUnit Wl1 M L = some (r, M') ∧ (r = 0 ∨ r = 1) ∧ Kq (PW Wl1) M L M' L := by
  refine Ok.x2 (A := fun r M' => (r = 0 ∨ r = 1) ∧ Kq (PW Wl1) M L M' L) ?_
  unfold F_Reader_takeUnit
  refine Ok.c1 (tf_Main_at (by decide)) (fun r82 _ => ?_)
  refine Ok.ite (fun h83 => ?_) (fun h83 => ?_)
  · refine Ok.ite (fun h84 => ?_) (fun h84 => ?_)
    · refine Ok.nmM (fun M85 eM85 => ?_)
      refine Ok.c1 (tq_Reader_holdSign (L := L) ) (fun M86 k87 => ?_)
      refine Ok.c1 (tq_Reader_take (L := L) ) (fun M88 k89 => ?_)
      exact ⟨_, rfl, (Or.inr rfl), (Kq.trans (Kq.trans (Kq.wM Kq.rf ((P3_PW _ _ rfl)) (by decide) eM85) (Kq.mono k87 P3_PW)) (Kq.mono k89 P3_PW))⟩
    · refine Ok.c1 (tq_Reader_stop (L := L) ) (fun M90 k91 => ?_)
      exact ⟨_, rfl, (Or.inr rfl), (Kq.trans Kq.rf (Kq.mono k91 P3_PW))⟩
  · refine Ok.ite (fun h92 => ?_) (fun h92 => ?_)
    · refine Ok.c1 (tq_Tokens_valueAt ) (fun r93 _ => ?_)
      refine Ok.c1 (tq_Law_add (L := L) hWl1) (fun M94 k95 => ?_)
      refine Ok.c1 (tq_Reader_take (L := L) ) (fun M96 k97 => ?_)
      exact ⟨_, rfl, (Or.inl rfl), (Kq.trans (Kq.trans Kq.rf k95) (Kq.mono k97 P3_PW))⟩
    · refine Ok.c1 (tf_Main_isOne ) (fun r98 hbr98 => ?_)
      refine Ok.ite (fun h99 => ?_) (fun h99 => ?_)
      · refine Ok.c1 (tq_Reader_stop (L := L) ) (fun M100 k101 => ?_)
        exact ⟨_, rfl, (Or.inl rfl), (Kq.trans Kq.rf (Kq.mono k101 P3_PW))⟩
      · refine Ok.c1 (tq_Law_add (L := L) hWl1) (fun M102 k103 => ?_)
        refine Ok.c1 (tq_Reader_take (L := L) ) (fun M104 k105 => ?_)
        exact ⟨_, rfl, (Or.inl rfl), (Kq.trans (Kq.trans Kq.rf k103) (Kq.mono k105 P3_PW))⟩
set_option maxHeartbeats 4000000 in
set_option maxRecDepth 20000 in
theorem tq_Reader_takeIngredient {Ld1 : Nat} {p2 : Int32} {M : gM} {L : gL} (hLd1 : isLa Ld1) : ∃ M', F_Reader_takeIngredient Ld1 p2 M L = some M' ∧ Kq (PD Ld1) M L M' L := by
  show Ok _ _
  unfold F_Reader_takeIngredient
  refine Ok.c1 (tq_Reader_is ) (fun r106 hbr106 => ?_)
  refine Ok.ite (fun h107 => ?_) (fun h107 => ?_)
  · unfold J_Reader_takeIngredient_78
    refine Ok.c1 (tq_Reader_need (L := L) ) (fun M108 k109 => ?_)
    exact ⟨_, rfl, (Kq.trans Kq.rf (Kq.mono k109 P3_PD))⟩
  · refine Ok.c1 (tq_Tokens_valueAt ) (fun r110 _ => ?_)
    refine Ok.c1 (tq_Reader_indexOf ) (fun r111 _ => ?_)
    refine Ok.ite (fun h112 => ?_) (fun h112 => ?_)
    · refine Ok.c1 (tf_Main_at (by decide)) (fun r113 _ => ?_)
      unfold J_Reader_takeIngredient_40
      refine Ok.ite (fun h114 => ?_) (fun h114 => ?_)
      · refine Ok.c1 (tf_Land_inDish hLd1) (fun r115 _ => ?_)
        refine Ok.c1 (tf_Main_put (by decide)) (fun M116 k117 => ?_)
        unfold J_Reader_takeIngredient_78
        refine Ok.c1 (tq_Reader_need (L := L) ) (fun M118 k119 => ?_)
        exact ⟨_, rfl, (Kq.trans (Kq.trans Kq.rf (Kq.one k117 (fun _ => PD_o ⟨by omega, by omega⟩) (by have := La_12 hLd1; omega))) (Kq.mono k119 P3_PD))⟩
      · refine Ok.c1 (tq_Reader_stopLate (L := L) ) (fun M120 k121 => ?_)
        unfold J_Reader_takeIngredient_78
        refine Ok.c1 (tq_Reader_need (L := L) ) (fun M122 k123 => ?_)
        exact ⟨_, rfl, (Kq.trans (Kq.trans Kq.rf (Kq.mono k121 P3_PD)) (Kq.mono k123 P3_PD))⟩
    · unfold J_Reader_takeIngredient_40
      refine Ok.ite (fun h124 => ?_) (fun h124 => ?_)
      · refine Ok.c1 (tf_Land_inDish hLd1) (fun r125 _ => ?_)
        refine Ok.c1 (tf_Main_put (by decide)) (fun M126 k127 => ?_)
        unfold J_Reader_takeIngredient_78
        refine Ok.c1 (tq_Reader_need (L := L) ) (fun M128 k129 => ?_)
        exact ⟨_, rfl, (Kq.trans (Kq.trans Kq.rf (Kq.one k127 (fun _ => PD_o ⟨by omega, by omega⟩) (by have := La_12 hLd1; omega))) (Kq.mono k129 P3_PD))⟩
      · refine Ok.c1 (tq_Reader_stopLate (L := L) ) (fun M130 k131 => ?_)
        unfold J_Reader_takeIngredient_78
        refine Ok.c1 (tq_Reader_need (L := L) ) (fun M132 k133 => ?_)
        exact ⟨_, rfl, (Kq.trans (Kq.trans Kq.rf (Kq.mono k131 P3_PD)) (Kq.mono k133 P3_PD))⟩
set_option maxHeartbeats 4000000 in
set_option maxRecDepth 20000 in
theorem tq_Reader_takeInt {p1 : Int32} {M : gM} {L : gL} : ∃ r M', F_Reader_takeInt p1 M L = some (r, M') ∧ True ∧ Kq P3 M L M' L := by
  refine Ok.x2 (A := fun r M' => True ∧ Kq P3 M L M' L) ?_
  unfold F_Reader_takeInt
  refine Ok.c1 (tq_Tokens_valueAt ) (fun r134 _ => ?_)
  refine Ok.nmI (fun x135 ex135 => ?_)
  refine Ok.c1 (tq_Reader_is ) (fun r136 hbr136 => ?_)
  refine Ok.ite (fun h137 => ?_) (fun h137 => ?_)
  · unfold J_Reader_takeInt_31
    refine Ok.c1 (tq_Reader_need (L := L) ) (fun M138 k139 => ?_)
    exact ⟨_, rfl, trivial, (Kq.trans Kq.rf k139)⟩
  · refine Ok.ite (fun h140 => ?_) (fun h140 => ?_)
    · unfold J_Reader_takeInt_31
      refine Ok.c1 (tq_Reader_need (L := L) ) (fun M141 k142 => ?_)
      exact ⟨_, rfl, trivial, (Kq.trans Kq.rf k142)⟩
    · refine Ok.c1 (tq_Reader_stopLate (L := L) ) (fun M143 k144 => ?_)
      unfold J_Reader_takeInt_31
      refine Ok.c1 (tq_Reader_need (L := L) ) (fun M145 k146 => ?_)
      exact ⟨_, rfl, trivial, (Kq.trans (Kq.trans Kq.rf k144) k146)⟩
set_option maxHeartbeats 4000000 in
set_option maxRecDepth 20000 in
theorem tq_Reader_takeNewName {p1 : Int32} {M : gM} {L : gL} : ∃ M' L', F_Reader_takeNewName p1 M L = some (M', L') ∧ Kq P3 M L M' L' := by
  refine Ok.x2 (A := fun M' L' => Kq P3 M L M' L') ?_
  unfold F_Reader_takeNewName
  refine Ok.c1 (tq_Reader_is ) (fun r147 hbr147 => ?_)
  refine Ok.ite (fun h148 => ?_) (fun h148 => ?_)
  · unfold J_Reader_takeNewName_97
    refine Ok.c1 (tq_Reader_need (L := L) ) (fun M149 k150 => ?_)
    exact ⟨_, rfl, (Kq.trans Kq.rf k150)⟩
  · refine Ok.c1 (tq_Tokens_valueAt ) (fun r151 _ => ?_)
    refine Ok.c1 (tq_Reader_indexOf ) (fun r152 _ => ?_)
    refine Ok.ite (fun h153 => ?_) (fun h153 => ?_)
    · refine Ok.ite (fun h154 => ?_) (fun h154 => ?_)
      · unfold J_Reader_takeNewName_97
        refine Ok.c1 (tq_Reader_need (L := L) ) (fun M155 k156 => ?_)
        exact ⟨_, rfl, (Kq.trans Kq.rf k156)⟩
      · refine Ok.ite (fun h157 => ?_) (fun h157 => ?_)
        · unfold J_Reader_takeNewName_97
          refine Ok.c1 (tq_Reader_need (L := L) ) (fun M158 k159 => ?_)
          exact ⟨_, rfl, (Kq.trans Kq.rf k159)⟩
        · refine Ok.ite (fun h160 => ?_) (fun h160 => ?_)
          · unfold J_Reader_takeNewName_97
            refine Ok.c1 (tq_Reader_need (L := L) ) (fun M161 k162 => ?_)
            exact ⟨_, rfl, (Kq.trans Kq.rf k162)⟩
          · refine Ok.gd (vin_of h154 h160 (by decide)) ?_
            refine Ok.nmL (fun L163 eL163 => ?_)
            refine Ok.gd (vin_of h154 h160 (by decide)) ?_
            refine Ok.nmM (fun M164 eM164 => ?_)
            refine Ok.nmM (fun M165 eM165 => ?_)
            unfold J_Reader_takeNewName_97
            refine Ok.c1 (tq_Reader_need (L := L163) ) (fun M166 k167 => ?_)
            exact ⟨_, rfl, (Kq.trans (Kq.wM (Kq.wM (Kq.wL Kq.rf eL163) (rfl) (fun q => absurd q.1 (by decide)) eM164) (rfl) (by decide) eM165) k167)⟩
    · refine Ok.c1 (tq_Reader_stopLate (L := L) ) (fun M168 k169 => ?_)
      unfold J_Reader_takeNewName_97
      refine Ok.c1 (tq_Reader_need (L := L) ) (fun M170 k171 => ?_)
      exact ⟨_, rfl, (Kq.trans (Kq.trans Kq.rf k169) k171)⟩
set_option maxHeartbeats 4000000 in
set_option maxRecDepth 20000 in
theorem tq_Reader_takeSum {Wl1 : Nat} {M : gM} {L : gL} (hWl1 : isLw Wl1) : ∃ M', F_Reader_takeSum Wl1 M L = some M' ∧ Kq (PW Wl1) M L M' L := by
  show Ok _ _
  unfold F_Reader_takeSum
  refine Ok.nmM (fun M172 eM172 => ?_)
  refine Ok.nmM (fun M173 eM173 => ?_)
  have LP177 : ∀ (f174 : Nat) (v178 : Int32) (v179 : Int32) (M180 : gM), Kq (PW Wl1) M L M180 L → ¬ v179 < 0 → ((400 : Int32).toInt + 1 - v179.toInt).toNat < f174 → Ok (H_Reader_takeSum_14 Wl1 L f174 v178 v179 M180) (fun q => Kq (PW Wl1) M L q L) := by
    intro f174
    induction f174 with
    | zero => intro v178 v179 M180 _ _ hm176; exact absurd hm176 (Nat.not_lt_zero _)
    | succ f174 ih175 =>
      intro v178 v179 M180 k181 n182 hm176
      show Ok (B_Reader_takeSum_14 Wl1 L (H_Reader_takeSum_14 Wl1 L f174) v178 v179 M180) _
      unfold B_Reader_takeSum_14
      refine Ok.ite (fun h183 => ?_) (fun h183 => ?_)
      · unfold J_Reader_takeSum_89
        refine Ok.c1 (tq_Reader_layHeld (L := L) hWl1) (fun M184 k185 => ?_)
        exact ⟨_, rfl, (Kq.trans k181 k185)⟩
      · refine Ok.ite (fun h186 => ?_) (fun h186 => ?_)
        · refine Ok.ite (fun h187 => ?_) (fun h187 => ?_)
          · refine Ok.c1 (tf_Main_at (by decide)) (fun r188 _ => ?_)
            refine Ok.c1 (tq_Reader_rank ) (fun r189 _ => ?_)
            refine Ok.ite (fun h190 => ?_) (fun h190 => ?_)
            · refine Ok.ite (fun h191 => ?_) (fun h191 => ?_)
              · unfold J_Reader_takeSum_89
                refine Ok.c1 (tq_Reader_layHeld (L := L) hWl1) (fun M192 k193 => ?_)
                exact ⟨_, rfl, (Kq.trans k181 k193)⟩
              · refine Ok.c1 (tq_Reader_takeClose (L := L) hWl1) (fun M194 k195 => ?_)
                unfold J_Reader_takeSum_83
                refine Ok.nmI (fun x196 ex196 => ?_)
                exact ih175 v178 x196 M194 (Kq.trans k181 k195) (nn_upe (y := (400 : Int32)) h183 (by decide) ex196 n182) (md_upe h183 (by decide) ex196 hm176)
            · refine Ok.c1 (tq_Reader_takeSign (L := L) hWl1) (fun M197 k198 => ?_)
              unfold J_Reader_takeSum_83
              refine Ok.nmI (fun x199 ex199 => ?_)
              exact ih175 1 x199 M197 (Kq.trans k181 k198) (nn_upe (y := (400 : Int32)) h183 (by decide) ex199 n182) (md_upe h183 (by decide) ex199 hm176)
          · refine Ok.c2 (tq_Reader_takeUnit hWl1) (fun r200 M201 ⟨hbr200, k202⟩ => ?_)
            unfold J_Reader_takeSum_83
            refine Ok.nmI (fun x203 ex203 => ?_)
            exact ih175 r200 x203 M201 (Kq.trans k181 k202) (nn_upe (y := (400 : Int32)) h183 (by decide) ex203 n182) (md_upe h183 (by decide) ex203 hm176)
        · unfold J_Reader_takeSum_89
          refine Ok.c1 (tq_Reader_layHeld (L := L) hWl1) (fun M204 k205 => ?_)
          exact ⟨_, rfl, (Kq.trans k181 k205)⟩
  exact LP177 _ 1 0 M173 (Kq.wM (Kq.wM Kq.rf ((P3_PW _ _ rfl)) (by decide) eM172) ((P3_PW _ _ rfl)) (by decide) eM173) (by decide) fu_upe
set_option maxHeartbeats 4000000 in
set_option maxRecDepth 20000 in
theorem tq_Reader_takeDeed {Ld1 : Nat} {M : gM} {L : gL} (hLd1 : isLa Ld1) : ∃ M' L', F_Reader_takeDeed Ld1 M L = some (M', L') ∧ Kq (PD Ld1) M L M' L' := by
  refine Ok.x2 (A := fun M' L' => Kq (PD Ld1) M L M' L') ?_
  unfold F_Reader_takeDeed
  refine Ok.nmI (fun x206 ex206 => ?_)
  refine Ok.ite (fun h207 => ?_) (fun h207 => ?_)
  · refine Ok.c1 (tq_Reader_take (L := L) ) (fun M208 k209 => ?_)
    refine Ok.c2 (tq_Reader_takeNewName ) (fun M210 L212 k211 => ?_)
    refine Ok.c2 (tq_Reader_takeInt ) (fun r213 M214 ⟨_, k215⟩ => ?_)
    refine Ok.c1 (tf_Main_put (by decide)) (fun M216 k217 => ?_)
    refine Ok.c2 (tq_Reader_takeInt ) (fun r218 M219 ⟨_, k220⟩ => ?_)
    refine Ok.c1 (tf_Main_put (by decide)) (fun M221 k222 => ?_)
    refine Ok.c1 (tq_Reader_need (L := L212) ) (fun M223 k224 => ?_)
    refine Ok.nmM (fun M225 eM225 => ?_)
    exact ⟨_, rfl, (Kq.wM (Kq.trans (Kq.trans (Kq.trans (Kq.trans (Kq.trans (Kq.trans (Kq.trans Kq.rf (Kq.mono k209 P3_PD)) (Kq.mono k211 P3_PD)) (Kq.mono k215 P3_PD)) (Kq.one k217 (fun _ => PD_o ⟨by omega, by omega⟩) (by have := La_12 hLd1; omega))) (Kq.mono k220 P3_PD)) (Kq.one k222 (fun _ => PD_o ⟨by omega, by omega⟩) (by have := La_12 hLd1; omega))) (Kq.mono k224 P3_PD)) (PD_o ⟨by omega, by omega⟩) (fun q => absurd q.1 (by have := La_12 hLd1; omega)) eM225)⟩
  · refine Ok.c1 (tq_Reader_stop (L := L) ) (fun M226 k227 => ?_)
    exact ⟨_, rfl, (Kq.trans Kq.rf (Kq.mono k227 P3_PD))⟩
set_option maxHeartbeats 4000000 in
set_option maxRecDepth 20000 in
theorem tq_Reader_takeDish {Ld1 : Nat} {M : gM} {L : gL} (hLd1 : isLa Ld1) : ∃ M' L', F_Reader_takeDish Ld1 M L = some (M', L') ∧ Kq (PD Ld1) M L M' L' := by
  refine Ok.x2 (A := fun M' L' => Kq (PD Ld1) M L M' L') ?_
  unfold F_Reader_takeDish
  refine Ok.nmI (fun x228 ex228 => ?_)
  refine Ok.ite (fun h229 => ?_) (fun h229 => ?_)
  · refine Ok.c1 (tq_Reader_take (L := L) ) (fun M230 k231 => ?_)
    refine Ok.c2 (tq_Reader_takeNewName ) (fun M232 L234 k233 => ?_)
    refine Ok.c2 (tq_Reader_takeInt ) (fun r235 M236 ⟨_, k237⟩ => ?_)
    refine Ok.c1 (tf_Main_put (by decide)) (fun M238 k239 => ?_)
    refine Ok.c1 (tq_Reader_takeIngredient hLd1) (fun M240 k241 => ?_)
    have LP245 : ∀ (f242 : Nat) (v246 : Int32) (M247 : gM), Kq (PD Ld1) M L M247 L234 → ¬ v246 < 0 → ((6 : Int32).toInt + 1 - v246.toInt).toNat < f242 → Ok (H_Reader_takeDish_47 Ld1 x228 L234 f242 v246 M247) (fun q => Kq (PD Ld1) M L q.1 q.2) := by
      intro f242
      induction f242 with
      | zero => intro v246 M247 _ _ hm244; exact absurd hm244 (Nat.not_lt_zero _)
      | succ f242 ih243 =>
        intro v246 M247 k248 n249 hm244
        show Ok (B_Reader_takeDish_47 Ld1 x228 L234 (H_Reader_takeDish_47 Ld1 x228 L234 f242) v246 M247) _
        unfold B_Reader_takeDish_47
        refine Ok.ite (fun h250 => ?_) (fun h250 => ?_)
        · unfold J_Reader_takeDish_94
          refine Ok.c1 (tq_Reader_need (L := L234) ) (fun M251 k252 => ?_)
          refine Ok.nmM (fun M253 eM253 => ?_)
          exact ⟨_, rfl, (Kq.wM (Kq.trans k248 (Kq.mono k252 P3_PD)) (PD_o ⟨by omega, by omega⟩) (fun q => absurd q.1 (by have := La_12 hLd1; omega)) eM253)⟩
        · refine Ok.ite (fun h254 => ?_) (fun h254 => ?_)
          · refine Ok.c1 (tq_Reader_is ) (fun r255 hbr255 => ?_)
            refine Ok.ite (fun h256 => ?_) (fun h256 => ?_)
            · unfold J_Reader_takeDish_94
              refine Ok.c1 (tq_Reader_need (L := L234) ) (fun M257 k258 => ?_)
              refine Ok.nmM (fun M259 eM259 => ?_)
              exact ⟨_, rfl, (Kq.wM (Kq.trans k248 (Kq.mono k258 P3_PD)) (PD_o ⟨by omega, by omega⟩) (fun q => absurd q.1 (by have := La_12 hLd1; omega)) eM259)⟩
            · refine Ok.ite (fun h260 => ?_) (fun h260 => ?_)
              · refine Ok.c1 (tq_Reader_stop (L := L234) ) (fun M261 k262 => ?_)
                unfold J_Reader_takeDish_88
                refine Ok.nmI (fun x263 ex263 => ?_)
                exact ih243 x263 M261 (Kq.trans k248 (Kq.mono k262 P3_PD)) (nn_upe (y := (6 : Int32)) h250 (by decide) ex263 n249) (md_upe h250 (by decide) ex263 hm244)
              · refine Ok.c1 (tq_Reader_takeIngredient hLd1) (fun M264 k265 => ?_)
                unfold J_Reader_takeDish_88
                refine Ok.nmI (fun x266 ex266 => ?_)
                exact ih243 x266 M264 (Kq.trans k248 k265) (nn_upe (y := (6 : Int32)) h250 (by decide) ex266 n249) (md_upe h250 (by decide) ex266 hm244)
          · unfold J_Reader_takeDish_94
            refine Ok.c1 (tq_Reader_need (L := L234) ) (fun M267 k268 => ?_)
            refine Ok.nmM (fun M269 eM269 => ?_)
            exact ⟨_, rfl, (Kq.wM (Kq.trans k248 (Kq.mono k268 P3_PD)) (PD_o ⟨by omega, by omega⟩) (fun q => absurd q.1 (by have := La_12 hLd1; omega)) eM269)⟩
    exact LP245 _ 1 M240 (Kq.trans (Kq.trans (Kq.trans (Kq.trans (Kq.trans Kq.rf (Kq.mono k231 P3_PD)) (Kq.mono k233 P3_PD)) (Kq.mono k237 P3_PD)) (Kq.one k239 (fun _ => PD_o ⟨by omega, by omega⟩) (by have := La_12 hLd1; omega))) k241) (by decide) fu_upe
  · refine Ok.c1 (tq_Reader_stop (L := L) ) (fun M270 k271 => ?_)
    exact ⟨_, rfl, (Kq.trans Kq.rf (Kq.mono k271 P3_PD))⟩
set_option maxHeartbeats 4000000 in
set_option maxRecDepth 20000 in
theorem tq_Reader_takeFood {Ld1 : Nat} {M : gM} {L : gL} (hLd1 : isLa Ld1) : ∃ M' L', F_Reader_takeFood Ld1 M L = some (M', L') ∧ Kq (PD Ld1) M L M' L' := by
  refine Ok.x2 (A := fun M' L' => Kq (PD Ld1) M L M' L') ?_
  unfold F_Reader_takeFood
  refine Ok.nmI (fun x272 ex272 => ?_)
  refine Ok.ite (fun h273 => ?_) (fun h273 => ?_)
  · refine Ok.c1 (tq_Reader_take (L := L) ) (fun M274 k275 => ?_)
    refine Ok.c2 (tq_Reader_takeNewName ) (fun M276 L278 k277 => ?_)
    refine Ok.c2 (tq_Reader_takeInt ) (fun r279 M280 ⟨_, k281⟩ => ?_)
    refine Ok.c1 (tf_Main_put (by decide)) (fun M282 k283 => ?_)
    refine Ok.c2 (tq_Reader_takeInt ) (fun r284 M285 ⟨_, k286⟩ => ?_)
    refine Ok.c1 (tf_Main_put (by decide)) (fun M287 k288 => ?_)
    have LP292 : ∀ (f289 : Nat) (v293 : Int32) (M294 : gM), Kq (PD Ld1) M L M294 L278 → ¬ v293 < 0 → ((3 : Int32).toInt - v293.toInt).toNat < f289 → Ok (H_Reader_takeFood_56 Ld1 x272 L278 f289 v293 M294) (fun q => Kq (PD Ld1) M L q.1 q.2) := by
      intro f289
      induction f289 with
      | zero => intro v293 M294 _ _ hm291; exact absurd hm291 (Nat.not_lt_zero _)
      | succ f289 ih290 =>
        intro v293 M294 k295 n296 hm291
        show Ok (B_Reader_takeFood_56 Ld1 x272 L278 (H_Reader_takeFood_56 Ld1 x272 L278 f289) v293 M294) _
        unfold B_Reader_takeFood_56
        refine Ok.ite (fun h297 => ?_) (fun h297 => ?_)
        · unfold J_Reader_takeFood_85
          refine Ok.c1 (tq_Reader_need (L := L278) ) (fun M298 k299 => ?_)
          refine Ok.nmM (fun M300 eM300 => ?_)
          exact ⟨_, rfl, (Kq.wM (Kq.trans k295 (Kq.mono k299 P3_PD)) (PD_o ⟨by omega, by omega⟩) (fun q => absurd q.1 (by have := La_12 hLd1; omega)) eM300)⟩
        · refine Ok.c2 (tq_Reader_takeInt ) (fun r301 M302 ⟨_, k303⟩ => ?_)
          refine Ok.c1 (tf_Main_put (by decide)) (fun M304 k305 => ?_)
          refine Ok.nmI (fun x306 ex306 => ?_)
          exact ih290 x306 M304 (Kq.trans (Kq.trans k295 (Kq.mono k303 P3_PD)) (Kq.one k305 (fun _ => PD_o ⟨by omega, by omega⟩) (by have := La_12 hLd1; omega))) (nn_up (y := (3 : Int32)) h297 ex306 n296) (md_up h297 ex306 hm291)
    exact LP292 _ 0 M287 (Kq.trans (Kq.trans (Kq.trans (Kq.trans (Kq.trans (Kq.trans Kq.rf (Kq.mono k275 P3_PD)) (Kq.mono k277 P3_PD)) (Kq.mono k281 P3_PD)) (Kq.one k283 (fun _ => PD_o ⟨by omega, by omega⟩) (by have := La_12 hLd1; omega))) (Kq.mono k286 P3_PD)) (Kq.one k288 (fun _ => PD_o ⟨by omega, by omega⟩) (by have := La_12 hLd1; omega))) (by decide) fu_up
  · refine Ok.c1 (tq_Reader_stop (L := L) ) (fun M307 k308 => ?_)
    exact ⟨_, rfl, (Kq.trans Kq.rf (Kq.mono k308 P3_PD))⟩
set_option maxHeartbeats 4000000 in
set_option maxRecDepth 20000 in
theorem tq_Reader_takeGuest {Ld1 : Nat} {M : gM} {L : gL} (hLd1 : isLa Ld1) : ∃ M' L', F_Reader_takeGuest Ld1 M L = some (M', L') ∧ Kq (PD Ld1) M L M' L' := by
  refine Ok.x2 (A := fun M' L' => Kq (PD Ld1) M L M' L') ?_
  unfold F_Reader_takeGuest
  refine Ok.nmI (fun x309 ex309 => ?_)
  refine Ok.ite (fun h310 => ?_) (fun h310 => ?_)
  · refine Ok.c1 (tq_Reader_take (L := L) ) (fun M311 k312 => ?_)
    refine Ok.c2 (tq_Reader_takeNewName ) (fun M313 L315 k314 => ?_)
    refine Ok.c2 (tq_Reader_takeInt ) (fun r316 M317 ⟨_, k318⟩ => ?_)
    refine Ok.c1 (tf_Main_put (by decide)) (fun M319 k320 => ?_)
    refine Ok.c1 (tq_Reader_need (L := L315) ) (fun M321 k322 => ?_)
    refine Ok.nmM (fun M323 eM323 => ?_)
    exact ⟨_, rfl, (Kq.wM (Kq.trans (Kq.trans (Kq.trans (Kq.trans (Kq.trans Kq.rf (Kq.mono k312 P3_PD)) (Kq.mono k314 P3_PD)) (Kq.mono k318 P3_PD)) (Kq.one k320 (fun _ => PD_o ⟨by omega, by omega⟩) (by have := La_12 hLd1; omega))) (Kq.mono k322 P3_PD)) (PD_o ⟨by omega, by omega⟩) (fun q => absurd q.1 (by have := La_12 hLd1; omega)) eM323)⟩
  · refine Ok.c1 (tq_Reader_stop (L := L) ) (fun M324 k325 => ?_)
    exact ⟨_, rfl, (Kq.trans Kq.rf (Kq.mono k325 P3_PD))⟩
set_option maxHeartbeats 4000000 in
set_option maxRecDepth 20000 in
theorem tq_Reader_takeLaw {Wl1 : Nat} {M : gM} {L : gL} (hWl1 : isLw Wl1) : ∃ M', F_Reader_takeLaw Wl1 M L = some M' ∧ Kq (PW Wl1) M L M' L := by
  show Ok _ _
  unfold F_Reader_takeLaw
  refine Ok.c1 (tq_Law_clear (L := L) hWl1) (fun M326 k327 => ?_)
  refine Ok.c1 (tq_Reader_take (L := L) ) (fun M328 k329 => ?_)
  refine Ok.c1 (tq_Reader_need (L := L) ) (fun M330 k331 => ?_)
  have LP335 : ∀ (f332 : Nat) (v336 : Int32) (M337 : gM), Kq (PW Wl1) M L M337 L → ¬ v336 < 0 → ((4 : Int32).toInt + 1 - v336.toInt).toNat < f332 → Ok (H_Reader_takeLaw_16 Wl1 L f332 v336 M337) (fun q => Kq (PW Wl1) M L q L) := by
    intro f332
    induction f332 with
    | zero => intro v336 M337 _ _ hm334; exact absurd hm334 (Nat.not_lt_zero _)
    | succ f332 ih333 =>
      intro v336 M337 k338 n339 hm334
      show Ok (B_Reader_takeLaw_16 Wl1 L (H_Reader_takeLaw_16 Wl1 L f332) v336 M337) _
      unfold B_Reader_takeLaw_16
      refine Ok.ite (fun h340 => ?_) (fun h340 => ?_)
      · unfold J_Reader_takeLaw_106
        refine Ok.c1 (tq_Reader_takeSum hWl1) (fun M341 k342 => ?_)
        refine Ok.c1 (tq_Reader_need (L := L) ) (fun M343 k344 => ?_)
        exact ⟨_, rfl, (Kq.trans (Kq.trans k338 k342) (Kq.mono k344 P3_PW))⟩
      · refine Ok.ite (fun h345 => ?_) (fun h345 => ?_)
        · refine Ok.c1 (tq_Reader_is ) (fun r346 hbr346 => ?_)
          refine Ok.ite (fun h347 => ?_) (fun h347 => ?_)
          · unfold J_Reader_takeLaw_106
            refine Ok.c1 (tq_Reader_takeSum hWl1) (fun M348 k349 => ?_)
            refine Ok.c1 (tq_Reader_need (L := L) ) (fun M350 k351 => ?_)
            exact ⟨_, rfl, (Kq.trans (Kq.trans k338 k349) (Kq.mono k351 P3_PW))⟩
          · refine Ok.ite (fun h352 => ?_) (fun h352 => ?_)
            · unfold J_Reader_takeLaw_43
              refine Ok.c1 (tq_Reader_stop (L := L) ) (fun M353 k354 => ?_)
              unfold J_Reader_takeLaw_106
              refine Ok.c1 (tq_Reader_takeSum hWl1) (fun M355 k356 => ?_)
              refine Ok.c1 (tq_Reader_need (L := L) ) (fun M357 k358 => ?_)
              exact ⟨_, rfl, (Kq.trans (Kq.trans (Kq.trans k338 (Kq.mono k354 P3_PW)) k356) (Kq.mono k358 P3_PW))⟩
            · refine Ok.c1 (tq_Reader_take (L := L) ) (fun M359 k360 => ?_)
              refine Ok.c1 (tq_Reader_takeSum hWl1) (fun M361 k362 => ?_)
              refine Ok.c1 (tq_Reader_need (L := L) ) (fun M363 k364 => ?_)
              refine Ok.c1 (tq_Reader_takeSum hWl1) (fun M365 k366 => ?_)
              refine Ok.c1 (tq_Reader_need (L := L) ) (fun M367 k368 => ?_)
              refine Ok.c2 (tq_Law_openIf (L := L) hWl1) (fun r369 M370 ⟨_, k371⟩ => ?_)
              refine Ok.c1 (tq_Reader_takeSum hWl1) (fun M372 k373 => ?_)
              refine Ok.c1 (tq_Reader_need (L := L) ) (fun M374 k375 => ?_)
              refine Ok.c1 (tq_Law_closeIf (L := L) hWl1) (fun M376 k377 => ?_)
              refine Ok.nmI (fun x378 ex378 => ?_)
              exact ih333 x378 M376 (Kq.trans (Kq.trans (Kq.trans (Kq.trans (Kq.trans (Kq.trans (Kq.trans (Kq.trans (Kq.trans k338 (Kq.mono k360 P3_PW)) k362) (Kq.mono k364 P3_PW)) k366) (Kq.mono k368 P3_PW)) k371) k373) (Kq.mono k375 P3_PW)) k377) (nn_upe (y := (4 : Int32)) h340 (by decide) ex378 n339) (md_upe h340 (by decide) ex378 hm334)
        · unfold J_Reader_takeLaw_106
          refine Ok.c1 (tq_Reader_takeSum hWl1) (fun M379 k380 => ?_)
          refine Ok.c1 (tq_Reader_need (L := L) ) (fun M381 k382 => ?_)
          exact ⟨_, rfl, (Kq.trans (Kq.trans k338 k380) (Kq.mono k382 P3_PW))⟩
  exact LP335 _ 0 M330 (Kq.trans (Kq.trans (Kq.trans Kq.rf k327) (Kq.mono k329 P3_PW)) (Kq.mono k331 P3_PW)) (by decide) fu_upe
set_option maxHeartbeats 4000000 in
set_option maxRecDepth 20000 in
theorem tq_Reader_takeSeed {Ld1 : Nat} {M : gM} {L : gL} (hLd1 : isLa Ld1) : ∃ M', F_Reader_takeSeed Ld1 M L = some M' ∧ Kq (PD Ld1) M L M' L := by
  show Ok _ _
  unfold F_Reader_takeSeed
  refine Ok.c1 (tq_Reader_take (L := L) ) (fun M383 k384 => ?_)
  refine Ok.c2 (tq_Reader_takeInt ) (fun r385 M386 ⟨_, k387⟩ => ?_)
  refine Ok.nmM (fun M388 eM388 => ?_)
  refine Ok.c1 (tq_Reader_need (L := L) ) (fun M389 k390 => ?_)
  exact ⟨_, rfl, (Kq.trans (Kq.wM (Kq.trans (Kq.trans Kq.rf (Kq.mono k384 P3_PD)) (Kq.mono k387 P3_PD)) (PD_o ⟨by omega, by omega⟩) (fun q => absurd q.1 (by have := La_12 hLd1; omega)) eM388) (Kq.mono k390 P3_PD))⟩
end MG10x3
