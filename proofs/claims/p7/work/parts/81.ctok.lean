/-! the class's tokens -/
theorem lN_inj {a b : Nat} (ha : a < 2 ^ 63) (hb : b < 2 ^ 63) (h : lN a = lN b) : a = b := by
  have := congrArg Int64.toInt h
  rw [show lN a = Int64.ofNat a from rfl, show lN b = Int64.ofNat b from rfl, lg_ofNat_toInt ha, lg_ofNat_toInt hb] at this
  omega
theorem enc32_lt {l : List Nat} (hl : l.length ≤ 8) (hc : ∀ c ∈ l, 1 ≤ c ∧ c ≤ 26) : enc 32 l < 2 ^ 63 := Nat.lt_of_lt_of_le (enc_lt (by decide) _ l rfl (fun c h => (hc c h).2)) (Nat.le_trans (Nat.pow_le_pow_right (by decide) hl) (by decide))
theorem enc27_lt {l : List Nat} (hl : l.length ≤ 8) (hc : ∀ c ∈ l, 1 ≤ c ∧ c ≤ 26) : enc 27 l < 2 ^ 63 := Nat.lt_of_lt_of_le (enc_lt (by decide) _ l rfl (fun c h => (hc c h).2)) (Nat.le_trans (Nat.pow_le_pow_right (by decide) hl) (by decide))
def kws : List (List Nat) := [[6,15,15,4],[4,9,19,8],[7,21,5,19,20],[4,5,5,4],[6,15,18,3,5],[2,9,14,4,19],[6,9,12,12,19],[19,12,9,16,19],[19,5,5,4],[9,6],[20,8,5,14],[5,12,19,5],[19,21,13],[8,5,1,20],[11,9,14,4],[13,1,14,25],[4,1,25],[16,1,12,1,20,5],[1,7,15],[19,20,15,3,11],[16,18,9,3,5]]
def kwAt (w : Nat) : List Nat := kws.getD w []
/-- the first word from w on that is l, else 21 -/
def kwF (l : List Nat) : Nat → Nat → Nat
  | 0, w => w
  | d + 1, w => if kwAt w = l then w else kwF l d (w + 1)
def kwk (l : List Nat) : Nat := if kwF l 21 0 < 21 then 128 + kwF l 21 0 else 2
theorem kwF_le (l : List Nat) : ∀ d w, w ≤ kwF l d w ∧ kwF l d w ≤ w + d := by
  intro d
  induction d with
  | zero => intro w; exact ⟨Nat.le_refl _, Nat.le_refl _⟩
  | succ d ih =>
    intro w
    unfold kwF
    split
    · omega
    · have := ih (w + 1); omega
def tokL (b : Nat → Nat) (n f : Nat) : List Nat := lets b f (rnE isLe b n f - f)
def tokD (b : Nat → Nat) (n f : Nat) : List Nat := (List.range (rnE isDi b n f - f)).map (fun j => b (f + j) - 48)
/-- the token at f: kind, value, where the next one may begin -/
def tokAt (b : Nat → Nat) (n f : Nat) : Nat × Nat × Nat :=
  if n ≤ f then (0, 0, f + 1)
  else if isLe (b f) = true then ((if rnE isLe b n f - f ≤ 8 then kwk (tokL b n f) else 1), enc 32 (tokL b n f), rnE isLe b n f)
  else if isDi (b f) = true then ((if rnE isDi b n f - f ≤ 4 then 3 else 1), enc 10 (tokD b n f), rnE isDi b n f)
  else ((if isSg (b f) = true then b f else 1), 0, f + 1)
/-- where the search for token i begins; where it stands; what it is -/
def tkP (b : Nat → Nat) (n : Nat) : Nat → Nat
  | 0 => 0
  | i + 1 => (tokAt b n (rnE isBl b n (tkP b n i))).2.2
def tkF (b : Nat → Nat) (n i : Nat) : Nat := rnE isBl b n (tkP b n i)
def tkK (b : Nat → Nat) (n i : Nat) : Nat := (tokAt b n (tkF b n i)).1
def tkV (b : Nat → Nat) (n i : Nat) : Nat := (tokAt b n (tkF b n i)).2.1
theorem tkP_s {b : Nat → Nat} {n i : Nat} : tkP b n (i + 1) = (tokAt b n (tkF b n i)).2.2 := rfl
/-- the tape of n bytes b -/
def Tp (b : Nat → Nat) (n : Nat) (M : gM) : Prop := M 1 1 = nI n ∧ n ≤ 2000 ∧ ∀ j, j < n → M 2 j = nI (b j) ∧ b j ≤ 255
theorem c_byte {b : Nat → Nat} {n i : Nat} {M : gM} (h : Tp b n M) (hi : i < n) : F_Tape_byteAt (nI i) M = some (nI (b i)) := by
  unfold F_Tape_byteAt
  have h2 := h.2.1
  rw [if_neg (nI_pos (by omega)), h.1, if_neg (by rw [nI_leI (by omega) (by omega)]; omega), if_neg (by rw [show (2000 : Int32) = nI 2000 from rfl, nI_leI (by omega) (by omega)]; omega), if_neg (nI_in (by omega) (by omega)), nI_clamp (by omega), (h.2.2 i hi).1]
theorem c_byteE {b : Nat → Nat} {n i : Nat} {M : gM} (h : Tp b n M) (hi : n ≤ i) (h31 : i < 2 ^ 31) : F_Tape_byteAt (nI i) M = some (-1) := by
  unfold F_Tape_byteAt
  have h2 := h.2.1
  rw [if_neg (nI_pos (by omega)), h.1, if_pos (by rw [nI_leI (by omega) (by omega)]; omega)]
theorem c_blank {c : Nat} (h : c ≤ 255) : F_Tokens_isBlank (nI c) = some (if isBl c = true then 1 else 0) := (by decide +kernel : ∀ c, c < 256 → F_Tokens_isBlank (nI c) = some (if isBl c = true then 1 else 0)) c (by omega)
theorem c_sign {c : Nat} (h : c ≤ 255) : F_Tokens_isSign (nI c) = some (if isSg c = true then 1 else 0) := (by decide +kernel : ∀ c, c < 256 → F_Tokens_isSign (nI c) = some (if isSg c = true then 1 else 0)) c (by omega)
theorem c_blanks {b : Nat → Nat} {n : Nat} {M : gM} (h : Tp b n M) : ∀ (d i f : Nat), n - i = d → i ≤ n → d < f → H_Tokens_behindBlanks_2 M f (nI i) = some (nI (rnE isBl b n i)) := by
  intro d
  have h2 := h.2.1
  induction d with
  | zero =>
    intro i f hd hi hf
    obtain ⟨f, rfl⟩ : ∃ g, f = g + 1 := ⟨f - 1, by omega⟩
    show B_Tokens_behindBlanks_2 M _ (nI i) = _
    unfold B_Tokens_behindBlanks_2
    rw [h.1, if_pos (by rw [nI_leI (by omega) (by omega)]; omega), rnE_no (by omega)]
  | succ d ih =>
    intro i f hd hi hf
    obtain ⟨f, rfl⟩ : ∃ g, f = g + 1 := ⟨f - 1, by omega⟩
    show B_Tokens_behindBlanks_2 M (H_Tokens_behindBlanks_2 M f) (nI i) = _
    unfold B_Tokens_behindBlanks_2
    have hb := (h.2.2 i (by omega)).2
    rw [h.1, if_neg (by rw [nI_leI (by omega) (by omega)]; omega), c_byte h (by omega), bI_s, c_blank hb, bI_s]
    by_cases hp : isBl (b i) = true
    · rw [if_pos hp, if_neg (by decide), nmI_e, nI_1, ih (i + 1) f (by omega) (by omega) (by omega), rnE_yes (by omega) hp]
    · rw [if_neg hp, if_pos rfl, rnE_no (fun q => hp q.2)]
theorem c_from {b : Nat → Nat} {n i : Nat} {M : gM} (h : Tp b n M) (hi : i ≤ n) : F_Tokens_behindBlanks (nI i) M = some (nI (rnE isBl b n i)) := by
  have h2 := h.2.1
  exact c_blanks h _ i FU rfl hi (by unfold FU; omega)
theorem c_set {i : Nat} {k : Int32} {v : Int64} {M : gM} {L : gL} (h : i < 401) : F_Tokens_set (nI i) k v M L = some (uM M 6 i k, uL L 8 i v) := by
  unfold F_Tokens_set
  rw [if_neg (nI_pos (by omega)), if_neg (by rw [show (401 : Int32) = nI 401 from rfl, nI_leI (by omega) (by omega)]; omega), if_neg (by rw [show (401 : Int32) = nI 401 from rfl, nI_leI (by omega) (by omega)]; omega), if_neg (nI_in h (by decide)), nI_clamp (by omega), nmM_e, if_neg (nI_inc h (by omega)), nmL_e]
/-- the class's words -/
def Wdc (L : gL) : Prop := ∀ w, w < 21 → L 5 w = lN (enc 32 (kwAt w))
theorem kw_ok : ∀ w, w < 21 → (kwAt w).length ≤ 8 ∧ ∀ c ∈ kwAt w, 1 ≤ c ∧ c ≤ 26 := by decide +kernel
theorem c_kindL {l : List Nat} {L : gL} (hW : Wdc L) (hl : l.length ≤ 8) (hc : ∀ c ∈ l, 1 ≤ c ∧ c ≤ 26) : ∀ (d w f : Nat), w + d = 21 → d < f → H_Tokens_kindOf_2 (lN (enc 32 l)) L f (nI w) = some (nI (if kwF l d w < 21 then 128 + kwF l d w else 2)) := by
  intro d
  induction d with
  | zero =>
    intro w f hd hf
    obtain ⟨f, rfl⟩ : ∃ g, f = g + 1 := ⟨f - 1, by omega⟩
    show B_Tokens_kindOf_2 _ L _ (nI w) = _
    unfold B_Tokens_kindOf_2
    rw [if_pos (by rw [show (21 : Int32) = nI 21 from rfl, nI_leI (by omega) (by omega)]; omega), show kwF l 0 w = w from rfl, if_neg (by omega)]
    rfl
  | succ d ih =>
    intro w f hd hf
    obtain ⟨f, rfl⟩ : ∃ g, f = g + 1 := ⟨f - 1, by omega⟩
    show B_Tokens_kindOf_2 _ L (H_Tokens_kindOf_2 _ L f) (nI w) = _
    unfold B_Tokens_kindOf_2
    rw [if_neg (by rw [show (21 : Int32) = nI 21 from rfl, nI_leI (by omega) (by omega)]; omega), if_neg (nI_in (by omega) (by decide)), nI_clamp (by omega), hW w (by omega)]
    unfold kwF
    by_cases he : kwAt w = l
    · rw [if_pos he, if_pos ((lg_cmp_eq _ _).mpr (by rw [he])), if_pos (by omega), show (128 : Int32) = nI 128 from rfl, nI_add]
    · rw [if_neg he, if_neg (fun q => he (enc_inj (by decide) _ _ _ rfl (kw_ok w (by omega)).2 hc (lN_inj (enc32_lt (kw_ok w (by omega)).1 (kw_ok w (by omega)).2) (enc32_lt hl hc) ((lg_cmp_eq _ _).mp q)))), nmI_e, nI_1]
      exact ih (w + 1) f (by omega) (by omega)
theorem c_kind {l : List Nat} {L : gL} (hW : Wdc L) (hl : l.length ≤ 8) (hc : ∀ c ∈ l, 1 ≤ c ∧ c ≤ 26) : F_Tokens_kindOf (lN (enc 32 l)) L = some (nI (kwk l)) := c_kindL hW hl hc 21 0 FU rfl (by unfold FU; omega)
theorem le_iff {c : Nat} : isLe c = true ↔ 97 ≤ c ∧ c ≤ 122 := by simp [isLe]
theorem di_iff {c : Nat} : isDi c = true ↔ 48 ≤ c ∧ c ≤ 57 := by simp [isDi]
theorem lets_ok {b : Nat → Nat} {n f e : Nat} (he : e ≤ rnE isLe b n f) : ∀ c ∈ lets b f (e - f), 1 ≤ c ∧ c ≤ 26 := by
  intro c hc
  simp only [lets, List.mem_map, List.mem_range] at hc
  obtain ⟨j, hj, rfl⟩ := hc
  have := ((rnE_ge (p := isLe) (b := b) (n := n) _ f rfl).2.2.1 (f + j) (by omega) (by omega)).2
  rw [le_iff] at this
  omega
theorem c_let {c e : Nat} (h : 97 ≤ c ∧ c ≤ 122) : lN e * 32 + (((nI c - 97) + 1) : Int32).toInt64 = lN (e * 32 + (c - 96)) := by
  rw [show (97 : Int32) = nI 97 from rfl, nI_sub h.1, nI_1, nI_l (by omega), show (32 : Int64) = lN 32 from rfl, lN_mul, lN_add]
  congr 1
  omega
theorem c_lettersL {b : Nat → Nat} {n f : Nat} {v3 : Int32} {M : gM} {L : gL} (h : Tp b n M) (hf : f ≤ n) : ∀ (d e g : Nat), rnE isLe b n f - e = d → f ≤ e → e ≤ rnE isLe b n f → d < g → H_Tokens_cutLetters_6 (nI f) v3 M L g (lN (enc 32 (lets b f (e - f)))) (nI e) = J_Tokens_cutLetters_56 (nI f) v3 (lN (enc 32 (tokL b n f))) (nI (rnE isLe b n f)) M L := by
  have h2 := h.2.1
  obtain ⟨r1, r2, r3, r4⟩ := rnE_ge (p := isLe) (b := b) (n := n) _ f rfl
  have r2 := r2 hf
  intro d
  induction d with
  | zero =>
    intro e g hd h1 he hg
    obtain ⟨g, rfl⟩ : ∃ x, g = x + 1 := ⟨g - 1, by omega⟩
    obtain rfl : e = rnE isLe b n f := by omega
    show B_Tokens_cutLetters_6 (nI f) v3 M L (H_Tokens_cutLetters_6 (nI f) v3 M L g) _ (nI (rnE isLe b n f)) = _
    unfold B_Tokens_cutLetters_6
    rw [h.1]
    by_cases hn : n ≤ rnE isLe b n f
    · rw [if_pos (by rw [nI_leI (by omega) (by omega)]; omega)]
      rfl
    · have hb := (h.2.2 _ (show rnE isLe b n f < n by omega)).2
      have hp : ¬ (97 ≤ b (rnE isLe b n f) ∧ b (rnE isLe b n f) ≤ 122) := fun q => r4 ⟨by omega, le_iff.mpr q⟩
      rw [if_neg (by rw [nI_leI (by omega) (by omega)]; omega), c_byte h (by omega), bI_s]
      by_cases hl : b (rnE isLe b n f) < 97
      · rw [if_pos (by rw [show (97 : Int32) = nI 97 from rfl, nI_ltI (by omega) (by omega)]; omega)]
        rfl
      · rw [if_neg (by rw [show (97 : Int32) = nI 97 from rfl, nI_ltI (by omega) (by omega)]; omega), bI_s, if_pos (by rw [show (122 : Int32) = nI 122 from rfl, nI_ltI (by omega) (by omega)]; omega)]
        rfl
  | succ d ih =>
    intro e g hd h1 he hg
    obtain ⟨g, rfl⟩ : ∃ x, g = x + 1 := ⟨g - 1, by omega⟩
    have hq := r3 e h1 (by omega)
    have hp := le_iff.mp hq.2
    have hb := (h.2.2 e hq.1).2
    show B_Tokens_cutLetters_6 (nI f) v3 M L (H_Tokens_cutLetters_6 (nI f) v3 M L g) _ (nI e) = _
    unfold B_Tokens_cutLetters_6
    rw [h.1, if_neg (by rw [nI_leI (by omega) (by omega)]; omega), c_byte h hq.1, bI_s, if_neg (by rw [show (97 : Int32) = nI 97 from rfl, nI_ltI (by omega) (by omega)]; omega), bI_s, if_neg (by rw [show (122 : Int32) = nI 122 from rfl, nI_ltI (by omega) (by omega)]; omega), bI_s]
    unfold F_Tokens_withLetter
    rw [bI_s, nmI_e, nI_1, c_let hp]
    have e1 : lets b f (e + 1 - f) = lets b f (e - f) ++ [b e - 96] := by
      rw [show e + 1 - f = (e - f) + 1 by omega, lets_s, show f + (e - f) = e by omega]
    rw [← enc_s, ← e1]
    exact ih (e + 1) g (by omega) (by omega) (by omega) (by omega)
theorem c_letters {b : Nat → Nat} {n f i : Nat} {M : gM} {L : gL} (h : Tp b n M) (hW : Wdc L) (hf : f < n) (hp : isLe (b f) = true) (hi : i < 401) : F_Tokens_cutLetters (nI f) (nI i) M L = some (nI (tokAt b n f).2.2, uM M 6 i (nI (tokAt b n f).1), uL L 8 i (lN (tokAt b n f).2.1)) := by
  have h2 := h.2.1
  obtain ⟨r1, r2, r3, r4⟩ := rnE_ge (p := isLe) (b := b) (n := n) _ f rfl
  have r2 := r2 (by omega)
  unfold F_Tokens_cutLetters
  have e0 : lN (enc 32 (lets b f (f - f))) = 0 := by rw [Nat.sub_self]; rfl
  have hl := c_lettersL (v3 := nI i) (L := L) h (by omega) _ f FU rfl (Nat.le_refl _) r1 (by unfold FU; omega)
  rw [e0] at hl
  rw [hl]
  unfold tokAt
  rw [if_neg (by omega), if_pos hp]
  unfold J_Tokens_cutLetters_56 J_Tokens_cutLetters_77
  rw [nI_sub r1]
  by_cases h8 : rnE isLe b n f - f ≤ 8
  · rw [if_pos (by rw [show (8 : Int32) = nI 8 from rfl, nI_leI (by omega) (by omega)]; omega), if_pos h8, c_kind hW (l := tokL b n f) (by show (lets b f _).length ≤ 8; rw [lets_len]; exact h8) (lets_ok (Nat.le_refl _)), bI_s, c_set hi]
    rfl
  · rw [if_neg (by rw [show (8 : Int32) = nI 8 from rfl, nI_leI (by omega) (by omega)]; omega), if_neg h8, c_set hi]
    rfl
def digs (b : Nat → Nat) (i k : Nat) : List Nat := (List.range k).map (fun j => b (i + j) - 48)
theorem digs_s {b : Nat → Nat} {i k : Nat} : digs b i (k + 1) = digs b i k ++ [b (i + k) - 48] := by simp [digs, List.range_succ]
theorem c_digL {b : Nat → Nat} {n f : Nat} {v3 : Int32} {M : gM} {L : gL} (h : Tp b n M) (hf : f ≤ n) : ∀ (d e g : Nat), rnE isDi b n f - e = d → f ≤ e → e ≤ rnE isDi b n f → d < g → H_Tokens_cutDigits_6 (nI f) v3 M L g (lN (enc 10 (digs b f (e - f)))) (nI e) = J_Tokens_cutDigits_62 (nI f) v3 (lN (enc 10 (tokD b n f))) (nI (rnE isDi b n f)) M L := by
  have h2 := h.2.1
  obtain ⟨r1, r2, r3, r4⟩ := rnE_ge (p := isDi) (b := b) (n := n) _ f rfl
  have r2 := r2 hf
  intro d
  induction d with
  | zero =>
    intro e g hd h1 he hg
    obtain ⟨g, rfl⟩ : ∃ x, g = x + 1 := ⟨g - 1, by omega⟩
    obtain rfl : e = rnE isDi b n f := by omega
    show B_Tokens_cutDigits_6 (nI f) v3 M L (H_Tokens_cutDigits_6 (nI f) v3 M L g) _ (nI (rnE isDi b n f)) = _
    unfold B_Tokens_cutDigits_6
    rw [h.1]
    by_cases hn : n ≤ rnE isDi b n f
    · rw [if_pos (by rw [nI_leI (by omega) (by omega)]; omega)]
      rfl
    · have hb := (h.2.2 _ (show rnE isDi b n f < n by omega)).2
      have hp : ¬ (48 ≤ b (rnE isDi b n f) ∧ b (rnE isDi b n f) ≤ 57) := fun q => r4 ⟨by omega, di_iff.mpr q⟩
      rw [if_neg (by rw [nI_leI (by omega) (by omega)]; omega), c_byte h (by omega), bI_s]
      by_cases hl : b (rnE isDi b n f) < 48
      · rw [if_pos (by rw [show (48 : Int32) = nI 48 from rfl, nI_ltI (by omega) (by omega)]; omega)]
        rfl
      · rw [if_neg (by rw [show (48 : Int32) = nI 48 from rfl, nI_ltI (by omega) (by omega)]; omega), bI_s, if_pos (by rw [show (57 : Int32) = nI 57 from rfl, nI_ltI (by omega) (by omega)]; omega)]
        rfl
  | succ d ih =>
    intro e g hd h1 he hg
    obtain ⟨g, rfl⟩ : ∃ x, g = x + 1 := ⟨g - 1, by omega⟩
    have hq := r3 e h1 (by omega)
    have hp := di_iff.mp hq.2
    have hb := (h.2.2 e hq.1).2
    show B_Tokens_cutDigits_6 (nI f) v3 M L (H_Tokens_cutDigits_6 (nI f) v3 M L g) _ (nI e) = _
    unfold B_Tokens_cutDigits_6
    rw [h.1, if_neg (by rw [nI_leI (by omega) (by omega)]; omega), c_byte h hq.1, bI_s, if_neg (by rw [show (48 : Int32) = nI 48 from rfl, nI_ltI (by omega) (by omega)]; omega), bI_s, if_neg (by rw [show (57 : Int32) = nI 57 from rfl, nI_ltI (by omega) (by omega)]; omega), bI_s, nmJ_e, nmI_e, nI_1]
    rw [show (48 : Int32) = nI 48 from rfl, nI_sub hp.1, nI_l (by omega), show (10 : Int64) = lN 10 from rfl, lN_mul, lN_add]
    have e1 : digs b f (e + 1 - f) = digs b f (e - f) ++ [b e - 48] := by
      rw [show e + 1 - f = (e - f) + 1 by omega, digs_s, show f + (e - f) = e by omega]
    rw [← enc_s, ← e1]
    exact ih (e + 1) g (by omega) (by omega) (by omega) (by omega)
theorem c_digits {b : Nat → Nat} {n f i : Nat} {M : gM} {L : gL} (h : Tp b n M) (hf : f < n) (hp : isDi (b f) = true) (hp2 : ¬ isLe (b f) = true) (hi : i < 401) : F_Tokens_cutDigits (nI f) (nI i) M L = some (nI (tokAt b n f).2.2, uM M 6 i (nI (tokAt b n f).1), uL L 8 i (lN (tokAt b n f).2.1)) := by
  have h2 := h.2.1
  obtain ⟨r1, r2, r3, r4⟩ := rnE_ge (p := isDi) (b := b) (n := n) _ f rfl
  have r2 := r2 (by omega)
  unfold F_Tokens_cutDigits
  have e0 : lN (enc 10 (digs b f (f - f))) = 0 := by rw [Nat.sub_self]; rfl
  have hl := c_digL (v3 := nI i) (L := L) h (by omega) _ f FU rfl (Nat.le_refl _) r1 (by unfold FU; omega)
  rw [e0] at hl
  rw [hl]
  unfold tokAt
  rw [if_neg (by omega), if_neg hp2, if_pos hp]
  unfold J_Tokens_cutDigits_62 J_Tokens_cutDigits_77
  rw [nI_sub r1]
  by_cases h8 : rnE isDi b n f - f ≤ 4
  · rw [if_pos (by rw [show (4 : Int32) = nI 4 from rfl, nI_leI (by omega) (by omega)]; omega), if_pos h8, c_set hi]
    rfl
  · rw [if_neg (by rw [show (4 : Int32) = nI 4 from rfl, nI_leI (by omega) (by omega)]; omega), if_neg h8, c_set hi]
    rfl
theorem c_one {b : Nat → Nat} {n f i : Nat} {M : gM} {L : gL} (h : Tp b n M) (hW : Wdc L) (hf : f ≤ n) (hi : i < 401) : F_Tokens_cutOne (nI f) (nI i) M L = some (nI (tokAt b n f).2.2, uM M 6 i (nI (tokAt b n f).1), uL L 8 i (lN (tokAt b n f).2.1)) := by
  have h2 := h.2.1
  unfold F_Tokens_cutOne
  by_cases hn : n ≤ f
  · rw [c_byteE h hn (by omega), bI_s, if_pos (by decide)]
    unfold J_Tokens_cutOne_29
    rw [if_pos (by decide)]
    unfold J_Tokens_cutOne_51
    rw [if_neg (by decide), c_set hi]
    unfold tokAt
    rw [if_pos hn]
    show some (nI f + 1, _, _) = _
    rw [nI_1]
    rfl
  · have hb := (h.2.2 f (by omega)).2
    rw [c_byte h (by omega), bI_s]
    have k1 : J_Tokens_cutOne_51 (nI f) (nI i) (nI (b f)) M L = some (nI (f + 1), uM M 6 i (nI (if isSg (b f) = true then b f else 1)), uL L 8 i 0) := by
      unfold J_Tokens_cutOne_51 J_Tokens_cutOne_82
      rw [if_pos (nI_pos' (by omega)), c_sign hb, bI_s, ← nI_1]
      by_cases hs : isSg (b f) = true
      · rw [if_pos hs, if_neg (by decide), if_pos hs, c_set hi]
        rfl
      · rw [if_neg hs, if_pos rfl, if_neg hs, c_set hi]
        rfl
    have k2 : ¬ isLe (b f) = true → J_Tokens_cutOne_29 (nI f) (nI i) (nI (b f)) M L = some (nI (tokAt b n f).2.2, uM M 6 i (nI (tokAt b n f).1), uL L 8 i (lN (tokAt b n f).2.1)) := by
      intro hl
      unfold J_Tokens_cutOne_29
      by_cases hd : isDi (b f) = true
      · have hd' := di_iff.mp hd
        rw [if_neg (by rw [show (48 : Int32) = nI 48 from rfl, nI_ltI (by omega) (by omega)]; omega), if_neg (by rw [show (57 : Int32) = nI 57 from rfl, nI_ltI (by omega) (by omega)]; omega), c_digits h (by omega) hd hl hi]
        rfl
      · have hd' := mt di_iff.mpr hd
        have k3 : tokAt b n f = ((if isSg (b f) = true then b f else 1), 0, f + 1) := by unfold tokAt; rw [if_neg hn, if_neg hl, if_neg hd]
        by_cases h48 : b f < 48
        · rw [if_pos (by rw [show (48 : Int32) = nI 48 from rfl, nI_ltI (by omega) (by omega)]; omega), k1, k3]
          rfl
        · rw [if_neg (by rw [show (48 : Int32) = nI 48 from rfl, nI_ltI (by omega) (by omega)]; omega), if_pos (by rw [show (57 : Int32) = nI 57 from rfl, nI_ltI (by omega) (by omega)]; omega), k1, k3]
          rfl
    by_cases hl : isLe (b f) = true
    · have hl' := le_iff.mp hl
      rw [if_neg (by rw [show (97 : Int32) = nI 97 from rfl, nI_ltI (by omega) (by omega)]; omega), if_neg (by rw [show (122 : Int32) = nI 122 from rfl, nI_ltI (by omega) (by omega)]; omega), c_letters h hW (by omega) hl hi]
      rfl
    · have hl' := mt le_iff.mpr hl
      by_cases h97 : b f < 97
      · rw [if_pos (by rw [show (97 : Int32) = nI 97 from rfl, nI_ltI (by omega) (by omega)]; omega), k2 hl]
      · rw [if_neg (by rw [show (97 : Int32) = nI 97 from rfl, nI_ltI (by omega) (by omega)]; omega), if_pos (by rw [show (122 : Int32) = nI 122 from rfl, nI_ltI (by omega) (by omega)]; omega), k2 hl]
theorem tokAt_K {b : Nat → Nat} {n f : Nat} (hb : ∀ j, j < n → b j ≤ 255) : (tokAt b n f).1 ≤ 255 := by
  unfold tokAt
  split
  · exact Nat.zero_le _
  · split
    · show (if rnE isLe b n f - f ≤ 8 then kwk (tokL b n f) else 1) ≤ 255
      have := (kwF_le (tokL b n f) 21 0).2
      unfold kwk
      split
      · split <;> omega
      · decide
    · split
      · show (if rnE isDi b n f - f ≤ 4 then 3 else 1) ≤ 255
        split <;> decide
      · show (if isSg (b f) = true then b f else 1) ≤ 255
        have := hb f (by omega)
        split <;> omega
theorem tokAt_P {b : Nat → Nat} {n f : Nat} (hf : f < n) : f < (tokAt b n f).2.2 ∧ (tokAt b n f).2.2 ≤ n := by
  unfold tokAt
  rw [if_neg (by omega)]
  split
  · next h => exact ⟨rnE_lt hf h, (rnE_ge (p := isLe) (b := b) (n := n) _ f rfl).2.1 (by omega)⟩
  · split
    · next h => exact ⟨rnE_lt hf h, (rnE_ge (p := isDi) (b := b) (n := n) _ f rfl).2.1 (by omega)⟩
    · exact ⟨Nat.lt_succ_self _, hf⟩
theorem tokAt_0 {b : Nat → Nat} {n f : Nat} (h : n ≤ f) : tokAt b n f = (0, 0, f + 1) := by unfold tokAt; rw [if_pos h]
theorem sg_0 : isSg 0 = false := by decide
theorem kwk_pos (l : List Nat) : 2 ≤ kwk l := by unfold kwk; split <;> omega
theorem tokAt_n0 {b : Nat → Nat} {n f : Nat} (h : f < n) : (tokAt b n f).1 ≠ 0 := by
  unfold tokAt
  rw [if_neg (by omega)]
  split
  · show (if rnE isLe b n f - f ≤ 8 then kwk (tokL b n f) else 1) ≠ 0
    have := kwk_pos (tokL b n f)
    split <;> omega
  · split
    · show (if rnE isDi b n f - f ≤ 4 then 3 else 1) ≠ 0
      split <;> omega
    · show (if isSg (b f) = true then b f else 1) ≠ 0
      split
      · next h => intro e; rw [e] at h; exact absurd h (by decide)
      · omega
theorem tkF_le {b : Nat → Nat} {n i : Nat} (h : tkP b n i ≤ n) : tkP b n i ≤ tkF b n i ∧ tkF b n i ≤ n := by
  have := rnE_ge (p := isBl) (b := b) (n := n) _ (tkP b n i) rfl
  exact ⟨this.1, this.2.1 h⟩
theorem tkP_le {b : Nat → Nat} {n : Nat} : ∀ i, (∀ j, j < i → tkK b n j ≠ 0) → tkP b n i ≤ n := by
  intro i
  induction i with
  | zero => intro _; exact Nat.zero_le _
  | succ i ih =>
    intro h
    have h1 := ih (fun j hj => h j (by omega))
    have h2 := tkF_le h1
    rw [tkP_s]
    rcases Nat.lt_or_ge (tkF b n i) n with w | w
    · exact (tokAt_P w).2
    · exfalso
      apply h i (by omega)
      unfold tkK
      rw [tokAt_0 w]
/-- what the class's cut leaves: tokens up to the m-th, the last one that it keeps -/
def Ck (b : Nat → Nat) (n m : Nat) (M : gM) (L : gL) : Prop := ∀ i, i ≤ m → M 6 i = nI (tkK b n i) ∧ M 7 i = nI (tkF b n i) ∧ L 8 i = lN (tkV b n i)
def isLast (b : Nat → Nat) (n m : Nat) : Prop := m ≤ 400 ∧ (∀ i, i < m → tkK b n i ≠ 0 ∧ tkK b n i ≠ 1) ∧ (m = 400 ∨ tkK b n m = 0 ∨ tkK b n m = 1)
theorem c_cutL {b : Nat → Nat} {n : Nat} : ∀ (d i f : Nat) (M : gM) (L : gL), Tp b n M → Wdc L → i + d = 401 → d < f → (∀ j, j < i → tkK b n j ≠ 0 ∧ tkK b n j ≠ 1) → (∀ j, j < i → M 6 j = nI (tkK b n j) ∧ M 7 j = nI (tkF b n j) ∧ L 8 j = lN (tkV b n j)) → (0 < i → 0 < d ∨ True) → i ≤ 400 →
    ∃ m M' L', isLast b n m ∧ H_Tokens_cut_4 f (nI (tkP b n i)) (nI i) M L = some (M', L') ∧ Ck b n m M' L' ∧ Eo (fun c _ => c = 6 ∨ c = 7) M M' ∧ (∀ c j, c ≠ 8 → L' c j = L c j) := by
  intro d
  induction d with
  | zero => intro i f M L _ _ h _ _ _ _ h400; omega
  | succ d ih =>
    intro i f M L hT hW hd hf hk hc _ h400
    obtain ⟨f, rfl⟩ : ∃ x, f = x + 1 := ⟨f - 1, by omega⟩
    have h2 := hT.2.1
    have hP := tkP_le i (fun j hj => (hk j hj).1)
    have hF := tkF_le hP
    have hb255 : ∀ j, j < n → b j ≤ 255 := fun j hj => (hT.2.2 j hj).2
    have hK := tokAt_K (f := tkF b n i) hb255
    show ∃ m M' L', isLast b n m ∧ B_Tokens_cut_4 (H_Tokens_cut_4 f) (nI (tkP b n i)) (nI i) M L = some (M', L') ∧ _
    unfold B_Tokens_cut_4
    rw [if_neg (by rw [show (401 : Int32) = nI 401 from rfl, nI_leI (by omega) (by omega)]; omega), c_from hT hP, bI_s, show rnE isBl b n (tkP b n i) = tkF b n i from rfl, c_one hT hW hF.2 (by omega), show (tokAt b n (tkF b n i)).2.2 = tkP b n (i + 1) from rfl, show (tokAt b n (tkF b n i)).2.1 = tkV b n i from rfl, show (tokAt b n (tkF b n i)).1 = tkK b n i from rfl, bI3_s]
    rw [s_put (by omega) (by decide), bI_s, if_neg (nI_in (by omega) (by decide)), nI_clamp (by omega), uM_diff (by omega), uM_same]
    have hE : Eo (fun c _ => c = 6 ∨ c = 7) M (uM (uM M 6 i (nI (tkK b n i))) 7 i (nI (tkF b n i))) := (Eo.rf.u (Or.inl rfl)).u (Or.inr rfl)
    have hL : ∀ c j, c ≠ 8 → uL L 8 i (lN (tkV b n i)) c j = L c j := fun c j h => by rw [uL_ne _ _ _ h]
    have hC : ∀ j, j < i + 1 → (uM (uM M 6 i (nI (tkK b n i))) 7 i (nI (tkF b n i))) 6 j = nI (tkK b n j) ∧ (uM (uM M 6 i (nI (tkK b n i))) 7 i (nI (tkF b n i))) 7 j = nI (tkF b n j) ∧ uL L 8 i (lN (tkV b n i)) 8 j = lN (tkV b n j) := by
      intro j hj
      by_cases hji : j = i
      · subst hji
        exact ⟨by rw [uM_diff (by omega), uM_same], uM_same, by rw [uL_at, if_pos ⟨rfl, rfl⟩]⟩
      · obtain ⟨a1, a2, a3⟩ := hc j (by omega)
        exact ⟨by rw [uM_diff (by omega), uM_diff (by omega)]; exact a1, by rw [uM_diff (by omega), uM_diff (by omega)]; exact a2, by rw [uL_at, if_neg (fun q => hji q.2)]; exact a3⟩
    generalize uM (uM M 6 i (nI (tkK b n i))) 7 i (nI (tkF b n i)) = M1 at hE hC ⊢
    generalize uL L 8 i (lN (tkV b n i)) = L1 at hL hC ⊢
    have hK' : tkK b n i ≤ 255 := hK
    by_cases h0 : tkK b n i = 0
    · rw [h0, if_pos (by decide : (nI 0 : Int32) = 0)]
      exact ⟨i, M1, L1, ⟨h400, hk, Or.inr (Or.inl h0)⟩, rfl, fun j hj => hC j (by omega), hE, hL⟩
    · rw [if_neg (by rw [show (0 : Int32) = nI 0 from rfl, nI_eq (by omega) (by omega)]; exact h0), if_neg (nI_inc (by omega) (by omega))]
      by_cases h1 : tkK b n i = 1
      · rw [h1, if_pos (by decide : (nI 1 : Int32) = 1)]
        exact ⟨i, M1, L1, ⟨h400, hk, Or.inr (Or.inr h1)⟩, rfl, fun j hj => hC j (by omega), hE, hL⟩
      · rw [if_neg (by rw [show (1 : Int32) = nI 1 from rfl, nI_eq (by omega) (by omega)]; exact h1), nmI_e, nI_1]
        have hk' : ∀ j, j < i + 1 → tkK b n j ≠ 0 ∧ tkK b n j ≠ 1 := fun j hj => by
          by_cases hji : j = i
          · subst hji; exact ⟨h0, h1⟩
          · exact hk j (by omega)
        by_cases h4 : i = 400
        · subst h4
          obtain ⟨f, rfl⟩ : ∃ x, f = x + 1 := ⟨f - 1, by omega⟩
          refine ⟨400, M1, L1, ⟨Nat.le_refl _, hk, Or.inl rfl⟩, ?_, fun j hj => hC j (by omega), hE, hL⟩
          show B_Tokens_cut_4 (H_Tokens_cut_4 f) (nI (tkP b n (400 + 1))) (nI 401) M1 L1 = _
          unfold B_Tokens_cut_4
          rw [if_pos (by decide)]
        · have hT1 : Tp b n M1 := ⟨by rw [hE 1 1 (by omega)]; exact hT.1, hT.2.1, fun j hj => ⟨by rw [hE 2 j (by omega)]; exact (hT.2.2 j hj).1, (hT.2.2 j hj).2⟩⟩
          obtain ⟨m, M', L', g1, g2, g3, g4, g5⟩ := ih (i + 1) f M1 L1 hT1 (fun w hw => by rw [hL 5 w (by decide)]; exact hW w hw) (by omega) (by omega) hk' hC (fun _ => Or.inr trivial) (by omega)
          exact ⟨m, M', L', g1, g2, g3, hE.tr g4, fun c j h => (g5 c j h).trans (hL c j h)⟩
theorem c_cut {b : Nat → Nat} {n : Nat} {M : gM} {L : gL} (hT : Tp b n M) (hW : Wdc L) : ∃ m M' L', isLast b n m ∧ F_Tokens_cut M L = some (M', L') ∧ Ck b n m M' L' ∧ Eo (fun c _ => c = 6 ∨ c = 7) M M' ∧ (∀ c j, c ≠ 8 → L' c j = L c j) :=
  c_cutL 401 0 FU M L hT hW rfl (by unfold FU; omega) (fun j h => by omega) (fun j h => by omega) (fun _ => Or.inr trivial) (by omega)
