/-! the model's tokens -/
def Tx (b : Nat → Nat) (n : Nat) (M : gM) : Prop := M 401 4 = nI n ∧ n ≤ 2000 ∧ ∀ j, j < n → (M 403 j) &&& 255 = nI (b j) ∧ b j ≤ 255
theorem m_byte {b : Nat → Nat} {n i : Nat} {M : gM} (h : Tx b n M) (hi : i < n) : F_Mod_byteAt (nI i) M = some (nI (b i)) := by
  unfold F_Mod_byteAt
  have h2 := h.2.1
  rw [h.1, if_neg (by rw [nI_leI (by omega) (by omega)]; omega), if_neg (nI_in (by omega) (by omega)), nI_clamp (by omega), (h.2.2 i hi).1]
theorem m_byteE {b : Nat → Nat} {n i : Nat} {M : gM} (h : Tx b n M) (hi : n ≤ i) (h31 : i < 2 ^ 31) : F_Mod_byteAt (nI i) M = some (nI 0) := by
  unfold F_Mod_byteAt
  have h2 := h.2.1
  rw [h.1, if_pos (by rw [nI_leI (by omega) (by omega)]; omega)]
  rfl
theorem m_isL {c : Nat} (h : c ≤ 255) : F_Mod_isLetter (nI c) = some (if isLe c = true then 1 else 0) := (by decide +kernel : ∀ c, c < 256 → F_Mod_isLetter (nI c) = some (if isLe c = true then 1 else 0)) c (by omega)
theorem m_isD {c : Nat} (h : c ≤ 255) : F_Mod_isDigit (nI c) = some (if isDi c = true then 1 else 0) := (by decide +kernel : ∀ c, c < 256 → F_Mod_isDigit (nI c) = some (if isDi c = true then 1 else 0)) c (by omega)
def tokM (k : Nat) (kd pl v : Int32) (M : gM) : gM := uM (uM (uM (uM M 404 k kd) 405 k pl) 406 k v) 401 10 (nI (k + 1))
theorem m_token {k : Nat} {kd pl v : Int32} {nm : Int64} {M : gM} {L : gL} (hk : M 401 10 = nI k) (h : k < 403) : F_Mod_token kd pl v nm M L = some (tokM k kd pl v M, uL L 407 k nm) := by
  unfold F_Mod_token
  rw [hk, if_neg (nI_in h (by decide)), nI_clamp (by omega), nmM_e, uM_diff (by omega), hk, if_neg (nI_in h (by decide)), nI_clamp (by omega), nmM_e, uM_diff (by omega), uM_diff (by omega), hk, if_neg (nI_in h (by decide)), nI_clamp (by omega), nmM_e, uM_diff (by omega), uM_diff (by omega), uM_diff (by omega), hk, if_neg (nI_in h (by decide)), nI_clamp (by omega), nmL_e, nmM_e, nI_1]
  rfl
def phi (k : Nat) : Nat := if 128 ≤ k then k - 108 else if k = 0 then 0 else if k = 2 then 1 else if k = 3 then 2 else if k = 59 then 4 else if k = 61 then 5 else if k = 40 then 6 else if k = 41 then 7 else if k = 43 then 8 else if k = 45 then 9 else if k = 42 then 10 else if k = 60 then 13 else if k = 47 then 15 else 3
theorem m_sign {c : Nat} {p d : Int32} {M : gM} {L : gL} (h : c ≤ 255) : F_Mod_sign p (nI c) d M L = bI2 (F_Mod_token (nI (phi (if isSg c = true then c else 1))) p 0 0 M L) (fun M' L' => some (1, M', L')) := by
  have e : ∀ k : Nat, k ≤ 255 → ((nI c = nI k) = (c = k)) := fun k hk => propext (nI_eq (by omega) (by omega))
  have e1 : (nI c = 59) = (c = 59) := e 59 (by decide)
  have e2 : (nI c = 61) = (c = 61) := e 61 (by decide)
  have e3 : (nI c = 40) = (c = 40) := e 40 (by decide)
  have e4 : (nI c = 41) = (c = 41) := e 41 (by decide)
  have e5 : (nI c = 43) = (c = 43) := e 43 (by decide)
  have e6 : (nI c = 45) = (c = 45) := e 45 (by decide)
  have e7 : (nI c = 42) = (c = 42) := e 42 (by decide)
  have e8 : (nI c = 47) = (c = 47) := e 47 (by decide)
  have e9 : (nI c = 60) = (c = 60) := e 60 (by decide)
  unfold F_Mod_sign J_Mod_sign_43 J_Mod_sign_55 J_Mod_sign_65 J_Mod_sign_75 J_Mod_sign_85 J_Mod_sign_95
  simp only [e1, e2, e3, e4, e5, e6, e7, e8, e9]
  by_cases h1 : c = 59
  · subst h1; rfl
  by_cases h2 : c = 61
  · subst h2; rfl
  by_cases h3 : c = 40
  · subst h3; rfl
  by_cases h4 : c = 41
  · subst h4; rfl
  by_cases h5 : c = 43
  · subst h5; rfl
  by_cases h6 : c = 45
  · subst h6; rfl
  by_cases h7 : c = 42
  · subst h7; rfl
  by_cases h8 : c = 47
  · subst h8; rfl
  by_cases h9 : c = 60
  · subst h9; rfl
  simp only [if_neg h1, if_neg h2, if_neg h3, if_neg h4, if_neg h5, if_neg h6, if_neg h7, if_neg h8, if_neg h9]
  have hs : isSg c = false := by simp [isSg, h1, h2, h3, h4, h5, h6, h7, h8, h9]
  rw [hs]
  rfl
theorem m_app {c e : Nat} (h : 97 ≤ c ∧ c ≤ 122) : F_Mod_appends (lN e) (nI c) = some (lN (e * 27 + (c - 96))) := by
  unfold F_Mod_appends
  rw [if_neg (nI_ne0 (by omega) (by omega)), show (97 : Int32) = nI 97 from rfl, nI_sub h.1, nI_1, nI_l (by omega), show (27 : Int64) = lN 27 from rfl, lN_mul, lN_add]
  congr 2
  rw [Nat.mul_comm 27 e]
  omega
def Wdm (L : gL) : Prop := ∀ w, w < 21 → L 408 w = lN (enc 27 (kwAt w))
theorem kw_ne : ∀ w, w < 21 → ∀ w', w' < 21 → kwAt w = kwAt w' → w = w' := by decide +kernel
theorem kwF_at {l : List Nat} : ∀ d w, kwF l d w < w + d → kwAt (kwF l d w) = l := by
  intro d
  induction d with
  | zero => intro w h; have : kwF l 0 w = w := rfl; omega
  | succ d ih =>
    intro w h
    unfold kwF at h ⊢
    by_cases he : kwAt w = l
    · rw [if_pos he]; exact he
    · rw [if_neg he] at h ⊢
      exact ih (w + 1) (by omega)
theorem kwF_no {l : List Nat} : ∀ d w j, w ≤ j → j < kwF l d w → kwAt j ≠ l := by
  intro d
  induction d with
  | zero => intro w j h1 h2; have : kwF l 0 w = w := rfl; omega
  | succ d ih =>
    intro w j h1 h2
    unfold kwF at h2
    by_cases he : kwAt w = l
    · rw [if_pos he] at h2; omega
    · rw [if_neg he] at h2
      rcases Nat.lt_or_ge w j with g | g
      · exact ih (w + 1) j (by omega) h2
      · rw [show j = w by omega]; exact he
theorem m_keysL {l : List Nat} {M : gM} {L : gL} {K7 : Int32 → gM → gL → Option (gM × gL)} {v1 v3 : Int32} (hW : Wdm L) (hl : l.length ≤ 8) (hc : ∀ c ∈ l, 1 ≤ c ∧ c ≤ 26) : ∀ (d w f : Nat) (x : Int32), w + d = 21 → d < f →
    ((∀ j, j < w → kwAt j ≠ l) ∧ x = 1 ∨ (∃ j, j < w ∧ kwAt j = l ∧ x = nI (20 + j))) → H_Mod_cut_146 K7 v1 v3 (lN (enc 27 l)) M L f x (nI w) = J_Mod_cut_179 K7 v1 v3 (lN (enc 27 l)) (nI (phi (kwk l))) M L := by
  intro d
  have fin : ∀ x : Int32, ((∀ j, j < 21 → kwAt j ≠ l) ∧ x = 1 ∨ (∃ j, j < 21 ∧ kwAt j = l ∧ x = nI (20 + j))) → x = nI (phi (kwk l)) := by
    intro x h
    unfold kwk
    rcases h with ⟨h1, rfl⟩ | ⟨j, hj, h1, rfl⟩
    · rw [if_neg (fun q => h1 _ q (kwF_at 21 0 (by omega)))]
      rfl
    · have hk : kwF l 21 0 = j := by
        have a1 := (kwF_le l 21 0).2
        rcases Nat.lt_trichotomy (kwF l 21 0) j with g | g | g
        · exact kw_ne _ (by omega) _ hj ((kwF_at 21 0 (by omega)).trans h1.symm)
        · exact g
        · exact absurd h1 (kwF_no 21 0 j (by omega) g)
      rw [hk, if_pos hj]
      unfold phi
      rw [if_pos (by omega)]
      congr 1
      omega
  induction d with
  | zero =>
    intro w f x hd hf hx
    obtain ⟨f, rfl⟩ : ∃ g, f = g + 1 := ⟨f - 1, by omega⟩
    obtain rfl : w = 21 := by omega
    show B_Mod_cut_146 K7 v1 v3 (lN (enc 27 l)) M L (H_Mod_cut_146 K7 v1 v3 (lN (enc 27 l)) M L f) x (nI 21) = _
    unfold B_Mod_cut_146
    rw [if_pos (by decide), fin x hx]
  | succ d ih =>
    intro w f x hd hf hx
    obtain ⟨f, rfl⟩ : ∃ g, f = g + 1 := ⟨f - 1, by omega⟩
    show B_Mod_cut_146 K7 v1 v3 (lN (enc 27 l)) M L (H_Mod_cut_146 K7 v1 v3 (lN (enc 27 l)) M L f) x (nI w) = _
    unfold B_Mod_cut_146
    rw [if_neg (by rw [show (21 : Int32) = nI 21 from rfl, nI_leI (by omega) (by omega)]; omega), if_neg (nI_in (by omega) (by decide)), nI_clamp (by omega), hW w (by omega)]
    by_cases he : kwAt w = l
    · rw [if_pos ((lg_cmp_eq _ _).mpr (by rw [he])), nmI_e]
      unfold J_Mod_cut_173
      rw [nmI_e, nI_1, show (20 : Int32) = nI 20 from rfl, nI_add]
      exact ih (w + 1) f _ (by omega) (by omega) (Or.inr ⟨w, by omega, he, rfl⟩)
    · rw [if_neg (fun q => he (enc_inj (by decide) _ _ _ rfl (kw_ok w (by omega)).2 hc (lN_inj (enc27_lt (kw_ok w (by omega)).1 (kw_ok w (by omega)).2) (enc27_lt hl hc) ((lg_cmp_eq _ _).mp q))))]
      unfold J_Mod_cut_173
      rw [nmI_e, nI_1]
      refine ih (w + 1) f _ (by omega) (by omega) ?_
      rcases hx with ⟨h1, h2⟩ | ⟨j, h1, h2, h3⟩
      · refine Or.inl ⟨fun j hj => ?_, h2⟩
        rcases Nat.lt_or_ge j w with g | g
        · exact h1 j g
        · rw [show j = w by omega]; exact he
      · exact Or.inr ⟨j, by omega, h2, h3⟩
theorem m_lettersL {b : Nat → Nat} {n p : Nat} {M : gM} {L : gL} {K7 : Int32 → gM → gL → Option (gM × gL)} (h : Tx b n M) (hp : p ≤ n) : ∀ (d k f : Nat), rnE isLe b n p - p - k = d → k ≤ rnE isLe b n p - p → d < f → H_Mod_cut_85 K7 (nI p) M L f (nI k) (lN (enc 27 (lets b p (min k 8)))) = J_Mod_cut_124 K7 (nI p) (nI (rnE isLe b n p - p)) (lN (enc 27 (lets b p (min (rnE isLe b n p - p) 8)))) M L := by
  have h2 := h.2.1
  obtain ⟨r1, r2, r3, r4⟩ := rnE_ge (p := isLe) (b := b) (n := n) _ p rfl
  have r2 := r2 hp
  intro d
  induction d with
  | zero =>
    intro k f hd hk hf
    obtain ⟨f, rfl⟩ : ∃ g, f = g + 1 := ⟨f - 1, by omega⟩
    obtain rfl : k = rnE isLe b n p - p := by omega
    show B_Mod_cut_85 K7 (nI p) M L (H_Mod_cut_85 K7 (nI p) M L f) _ _ = _
    unfold B_Mod_cut_85
    rw [nI_add, show p + (rnE isLe b n p - p) = rnE isLe b n p by omega]
    rcases Nat.lt_or_ge (rnE isLe b n p) n with w | w
    · have hb := (h.2.2 _ w).2
      rw [m_byte h w, bI_s, m_isL hb, bI_s, if_neg (fun q => r4 ⟨w, q⟩), if_pos rfl]
    · rw [m_byteE h w (by omega), bI_s, m_isL (by decide), bI_s]
      rfl
  | succ d ih =>
    intro k f hd hk hf
    obtain ⟨f, rfl⟩ : ∃ g, f = g + 1 := ⟨f - 1, by omega⟩
    have hq := r3 (p + k) (by omega) (by omega)
    have hb := (h.2.2 _ hq.1).2
    show B_Mod_cut_85 K7 (nI p) M L (H_Mod_cut_85 K7 (nI p) M L f) _ _ = _
    unfold B_Mod_cut_85
    rw [nI_add, m_byte h hq.1, bI_s, m_isL hb, bI_s, if_pos hq.2, if_neg (by decide)]
    unfold J_Mod_cut_118
    by_cases h8 : 8 ≤ k
    · rw [if_pos (by rw [show (8 : Int32) = nI 8 from rfl, nI_leI (by omega) (by omega)]; omega), nmI_e, nI_1]
      have := ih (k + 1) f (by omega) (by omega) (by omega)
      rw [show min (k + 1) 8 = min k 8 by omega] at this
      exact this
    · rw [if_neg (by rw [show (8 : Int32) = nI 8 from rfl, nI_leI (by omega) (by omega)]; omega), bI_s, m_app (le_iff.mp hq.2), bI_s, nmI_e, nI_1]
      have := ih (k + 1) f (by omega) (by omega) (by omega)
      rw [show min (k + 1) 8 = k + 1 by omega, lets_s, enc_s] at this
      rw [show min k 8 = k by omega]
      exact this
theorem m_digL {b : Nat → Nat} {n p : Nat} {M : gM} {L : gL} {K7 : Int32 → gM → gL → Option (gM × gL)} (h : Tx b n M) (hp : p ≤ n) : ∀ (d k f : Nat), rnE isDi b n p - p - k = d → k ≤ rnE isDi b n p - p → d < f → H_Mod_cut_208 K7 (nI p) M L f (nI k) (nI (enc 10 (digs b p (min k 4)))) = J_Mod_cut_250 K7 (nI p) (nI (rnE isDi b n p - p)) (nI (enc 10 (digs b p (min (rnE isDi b n p - p) 4)))) M L := by
  have h2 := h.2.1
  obtain ⟨r1, r2, r3, r4⟩ := rnE_ge (p := isDi) (b := b) (n := n) _ p rfl
  have r2 := r2 hp
  intro d
  induction d with
  | zero =>
    intro k f hd hk hf
    obtain ⟨f, rfl⟩ : ∃ g, f = g + 1 := ⟨f - 1, by omega⟩
    obtain rfl : k = rnE isDi b n p - p := by omega
    show B_Mod_cut_208 K7 (nI p) M L (H_Mod_cut_208 K7 (nI p) M L f) _ _ = _
    unfold B_Mod_cut_208
    rw [nI_add, show p + (rnE isDi b n p - p) = rnE isDi b n p by omega]
    rcases Nat.lt_or_ge (rnE isDi b n p) n with w | w
    · have hb := (h.2.2 _ w).2
      rw [m_byte h w, bI_s, m_isD hb, bI_s, if_neg (fun q => r4 ⟨w, q⟩), if_pos rfl]
    · rw [m_byteE h w (by omega), bI_s, m_isD (by decide), bI_s]
      rfl
  | succ d ih =>
    intro k f hd hk hf
    obtain ⟨f, rfl⟩ : ∃ g, f = g + 1 := ⟨f - 1, by omega⟩
    have hq := r3 (p + k) (by omega) (by omega)
    have hb := (h.2.2 _ hq.1).2
    have hdi := di_iff.mp hq.2
    show B_Mod_cut_208 K7 (nI p) M L (H_Mod_cut_208 K7 (nI p) M L f) _ _ = _
    unfold B_Mod_cut_208
    rw [nI_add, m_byte h hq.1, bI_s, m_isD hb, bI_s, if_pos hq.2, if_neg (by decide)]
    unfold J_Mod_cut_244
    by_cases h8 : 4 ≤ k
    · rw [if_pos (by rw [show (4 : Int32) = nI 4 from rfl, nI_leI (by omega) (by omega)]; omega), nmI_e, nI_1]
      have := ih (k + 1) f (by omega) (by omega) (by omega)
      rw [show min (k + 1) 4 = min k 4 by omega] at this
      exact this
    · rw [if_neg (by rw [show (4 : Int32) = nI 4 from rfl, nI_leI (by omega) (by omega)]; omega), bI_s, nmI_e, nmI_e, nI_1]
      have := ih (k + 1) f (by omega) (by omega) (by omega)
      rw [show min (k + 1) 4 = k + 1 by omega, digs_s, enc_s] at this
      rw [show min k 4 = k by omega, show (10 : Int32) = nI 10 from rfl, nI_mul, nI_add, show (48 : Int32) = nI 48 from rfl, nI_sub (by omega), show 10 * enc 10 (digs b p k) + b (p + k) - 48 = enc 10 (digs b p k) * 10 + (b (p + k) - 48) by omega]
      exact this
/-- the model's tokens below m are the text's -/
def Ckm (b : Nat → Nat) (n m : Nat) (M : gM) (L : gL) : Prop := ∀ i, i < m → M 404 i = nI (phi (tkK b n i)) ∧ M 405 i = nI (tkF b n i) ∧ (tkK b n i = 3 → M 406 i = nI (tkV b n i)) ∧ (tkK b n i = 2 → L 407 i = lN (enc 27 (tokL b n (tkF b n i))))
def tkS (c j : Nat) : Prop := c = 404 ∨ c = 405 ∨ c = 406 ∨ (c = 401 ∧ j = 10)
theorem m_put {b : Nat → Nat} {n i : Nat} {kd pl v : Int32} {nm : Int64} {M : gM} {L : gL} (hc : Ckm b n i M L) (h1 : kd = nI (phi (tkK b n i))) (h2 : pl = nI (tkF b n i)) (h3 : tkK b n i = 3 → v = nI (tkV b n i)) (h4 : tkK b n i = 2 → nm = lN (enc 27 (tokL b n (tkF b n i)))) : Ckm b n (i + 1) (tokM i kd pl v M) (uL L 407 i nm) := by
  intro j hj
  unfold tokM
  by_cases hji : j = i
  · subst hji
    exact ⟨by rw [uM_diff (by omega), uM_diff (by omega), uM_diff (by omega), uM_same, h1], by rw [uM_diff (by omega), uM_diff (by omega), uM_same, h2], fun q => by rw [uM_diff (by omega), uM_same, h3 q], fun q => by rw [uL_at, if_pos ⟨rfl, rfl⟩, h4 q]⟩
  · obtain ⟨a1, a2, a3, a4⟩ := hc j (by omega)
    exact ⟨by rw [uM_diff (by omega), uM_diff (by omega), uM_diff (by omega), uM_diff (by omega), a1], by rw [uM_diff (by omega), uM_diff (by omega), uM_diff (by omega), uM_diff (by omega), a2], fun q => by rw [uM_diff (by omega), uM_diff (by omega), uM_diff (by omega), uM_diff (by omega), a3 q], fun q => by rw [uL_at, if_neg (fun w => hji w.2), a4 q]⟩
theorem tokM_E {i : Nat} {kd pl v : Int32} {M : gM} : Eo tkS M (tokM i kd pl v M) := (((Eo.rf.u (Or.inl rfl)).u (Or.inr (Or.inl rfl))).u (Or.inr (Or.inr (Or.inl rfl)))).u (Or.inr (Or.inr (Or.inr ⟨rfl, rfl⟩)))
theorem Tx.keep {b : Nat → Nat} {n : Nat} {M M' : gM} (h : Tx b n M) (hE : Eo tkS M M') : Tx b n M' := by
  refine ⟨?_, h.2.1, fun j hj => ⟨?_, (h.2.2 j hj).2⟩⟩
  · rw [hE 401 4 (by unfold tkS; omega)]; exact h.1
  · rw [hE 403 j (by unfold tkS; omega)]; exact (h.2.2 j hj).1
theorem m_cutL {b : Nat → Nat} {n : Nat} : ∀ (d p i f : Nat) (M : gM) (L : gL), n - p ≤ d → p ≤ n → i ≤ 401 → rnE isBl b n p = tkF b n i → d + 2 ≤ f → Tx b n M → Wdm L → M 401 10 = nI i → Ckm b n i M L → (∀ j, j < i → tkK b n j ≠ 0) →
    ∃ m M' L', H_Mod_cut_7 f (nI p) M L = some (M', L') ∧ (m ≤ 401 ∧ (m = 401 ∨ 0 < m ∧ tkK b n (m - 1) = 0)) ∧ Ckm b n m M' L' ∧ Eo tkS M M' ∧ (∀ c j, c ≠ 407 → L' c j = L c j) := by
  intro d
  induction d with
  | zero =>
    intro p i f M L hd hp hi hr hf hT hW hk hC h0
    obtain ⟨f, rfl⟩ : ∃ g, f = g + 1 := ⟨f - 1, by omega⟩
    have h2 := hT.2.1
    obtain rfl : p = n := by omega
    show ∃ m M' L', B_Mod_cut_7 (H_Mod_cut_7 f) (nI p) M L = some (M', L') ∧ _
    unfold B_Mod_cut_7
    rw [hk]
    by_cases h401 : i = 401
    · rw [if_pos (by rw [show (400 : Int32) = nI 400 from rfl, nI_ltI (by omega) (by omega)]; omega)]
      exact ⟨i, M, L, rfl, ⟨hi, Or.inl h401⟩, hC, Eo.rf, fun _ _ _ => rfl⟩
    · rw [if_neg (by rw [show (400 : Int32) = nI 400 from rfl, nI_ltI (by omega) (by omega)]; omega), m_byteE hT (Nat.le_refl _) (by omega), bI_s, hT.1, if_neg (by rw [nI_ltI (by omega) (by omega)]; omega)]
      unfold J_Mod_cut_31
      rw [hT.1, m_token hk (by omega)]
      have hF : tkF b p i = p := by rw [← hr, rnE_no (by omega)]
      have hK : tkK b p i = 0 := by unfold tkK; rw [hF, tokAt_0 (Nat.le_refl _)]
      exact ⟨i + 1, _, _, rfl, ⟨by omega, Or.inr ⟨by omega, hK⟩⟩, m_put hC (by rw [hK]; rfl) (by rw [hF]) (fun q => by rw [hK] at q; omega) (fun q => by rw [hK] at q; omega), tokM_E, fun c j h => by rw [uL_ne _ _ _ h]⟩
  | succ d ih =>
    intro p i f M L hd hp hi hr hf hT hW hk hC h0
    rcases Nat.lt_or_ge p n with hpn | hpn
    case inr =>
      -- as at the end
      have hf1 : ∃ g, f = g + 1 := ⟨f - 1, by omega⟩
      obtain ⟨f, rfl⟩ := hf1
      have h2 := hT.2.1
      obtain rfl : p = n := by omega
      show ∃ m M' L', B_Mod_cut_7 (H_Mod_cut_7 f) (nI p) M L = some (M', L') ∧ _
      unfold B_Mod_cut_7
      rw [hk]
      by_cases h401 : i = 401
      · rw [if_pos (by rw [show (400 : Int32) = nI 400 from rfl, nI_ltI (by omega) (by omega)]; omega)]
        exact ⟨i, M, L, rfl, ⟨hi, Or.inl h401⟩, hC, Eo.rf, fun _ _ _ => rfl⟩
      · rw [if_neg (by rw [show (400 : Int32) = nI 400 from rfl, nI_ltI (by omega) (by omega)]; omega), m_byteE hT (Nat.le_refl _) (by omega), bI_s, hT.1, if_neg (by rw [nI_ltI (by omega) (by omega)]; omega)]
        unfold J_Mod_cut_31
        rw [hT.1, m_token hk (by omega)]
        have hF : tkF b p i = p := by rw [← hr, rnE_no (by omega)]
        have hK : tkK b p i = 0 := by unfold tkK; rw [hF, tokAt_0 (Nat.le_refl _)]
        exact ⟨i + 1, _, _, rfl, ⟨by omega, Or.inr ⟨by omega, hK⟩⟩, m_put hC (by rw [hK]; rfl) (by rw [hF]) (fun q => by rw [hK] at q; omega) (fun q => by rw [hK] at q; omega), tokM_E, fun c j h => by rw [uL_ne _ _ _ h]⟩
    obtain ⟨f, rfl⟩ : ∃ g, f = g + 1 := ⟨f - 1, by omega⟩
    have h2 := hT.2.1
    have hb := (hT.2.2 p hpn).2
    show ∃ m M' L', B_Mod_cut_7 (H_Mod_cut_7 f) (nI p) M L = some (M', L') ∧ _
    unfold B_Mod_cut_7
    rw [hk]
    by_cases h401 : i = 401
    · rw [if_pos (by rw [show (400 : Int32) = nI 400 from rfl, nI_ltI (by omega) (by omega)]; omega)]
      exact ⟨i, M, L, rfl, ⟨hi, Or.inl h401⟩, hC, Eo.rf, fun _ _ _ => rfl⟩
    rw [if_neg (by rw [show (400 : Int32) = nI 400 from rfl, nI_ltI (by omega) (by omega)]; omega), m_byte hT hpn, bI_s, hT.1, if_pos (by rw [nI_ltI (by omega) (by omega)]; omega)]
    have e : ∀ k : Nat, k ≤ 255 → ((nI (b p) = nI k) = (b p = k)) := fun k hk => propext (nI_eq (by omega) (by omega))
    have e1 : (nI (b p) = 9) = (b p = 9) := e 9 (by decide)
    have e2 : (nI (b p) = 10) = (b p = 10) := e 10 (by decide)
    have e3 : (nI (b p) = 13) = (b p = 13) := e 13 (by decide)
    have e4 : (nI (b p) = 32) = (b p = 32) := e 32 (by decide)
    simp only [e1, e2, e3, e4]
    by_cases hbl : isBl (b p) = true
    · have hgo : ∃ m M' L', J_Mod_cut_67 (H_Mod_cut_7 f) (nI p) M L = some (M', L') ∧ (m ≤ 401 ∧ (m = 401 ∨ 0 < m ∧ tkK b n (m - 1) = 0)) ∧ Ckm b n m M' L' ∧ Eo tkS M M' ∧ (∀ c j, c ≠ 407 → L' c j = L c j) := by
        unfold J_Mod_cut_67 J_Mod_cut_291
        rw [nmI_e, nI_1]
        exact ih (p + 1) i f M L (by omega) (by omega) hi (by rw [← hr, rnE_yes hpn hbl]) (by omega) hT hW hk hC h0
      have h4 : b p = 9 ∨ b p = 10 ∨ b p = 13 ∨ b p = 32 := by simpa [isBl, or_assoc] using hbl
      by_cases c1 : b p = 9
      · rw [if_pos c1]; exact hgo
      rw [if_neg c1]
      by_cases c2 : b p = 10
      · rw [if_pos c2]; exact hgo
      rw [if_neg c2]
      by_cases c3 : b p = 13
      · rw [if_pos c3]; exact hgo
      rw [if_neg c3, if_pos (by omega)]
      exact hgo
    have h4 : ¬ (b p = 9 ∨ b p = 10 ∨ b p = 13 ∨ b p = 32) := fun q => hbl (by simpa [isBl, or_assoc] using q)
    rw [if_neg (fun q => h4 (Or.inl q)), if_neg (fun q => h4 (Or.inr (Or.inl q))), if_neg (fun q => h4 (Or.inr (Or.inr (Or.inl q)))), if_neg (fun q => h4 (Or.inr (Or.inr (Or.inr q)))), m_isL hb, bI_s]
    have hF : tkF b n i = p := by rw [← hr, rnE_no (fun q => hbl q.2)]
    -- behind a token
    have hgo : ∀ (kd pl v : Int32) (nm : Int64), kd = nI (phi (tkK b n i)) → pl = nI p → (tkK b n i = 3 → v = nI (tkV b n i)) → (tkK b n i = 2 → nm = lN (enc 27 (tokL b n (tkF b n i)))) → tkK b n i ≠ 0 →
        ∃ m M' L', H_Mod_cut_7 f (nI (tkP b n (i + 1))) (tokM i kd pl v M) (uL L 407 i nm) = some (M', L') ∧ (m ≤ 401 ∧ (m = 401 ∨ 0 < m ∧ tkK b n (m - 1) = 0)) ∧ Ckm b n m M' L' ∧ Eo tkS M M' ∧ (∀ c j, c ≠ 407 → L' c j = L c j) := by
      intro kd pl v nm a1 a2 a3 a4 a5
      have hP : tkP b n (i + 1) = (tokAt b n p).2.2 := by rw [tkP_s, hF]
      have hPP := tokAt_P (b := b) hpn
      rw [← hP] at hPP
      obtain ⟨m, M', L', g1, g2, g3, g4, g5⟩ := ih (tkP b n (i + 1)) (i + 1) f (tokM i kd pl v M) (uL L 407 i nm) (by omega) hPP.2 (by omega) rfl (by omega) (hT.keep tokM_E) (fun w hw => by rw [uL_ne _ _ _ (by decide)]; exact hW w hw) uM_same (m_put hC a1 (by rw [hF]; exact a2) a3 a4) (fun j hj => by
        rcases Nat.lt_or_ge j i with g | g
        · exact h0 j g
        · rw [show j = i by omega]; exact a5)
      exact ⟨m, M', L', g1, g2, g3, tokM_E.tr g4, fun c j h => (g5 c j h).trans (by rw [uL_ne _ _ _ h])⟩
    have hKn : tkK b n i ≠ 0 := by unfold tkK; rw [hF]; exact tokAt_n0 hpn
    by_cases hl : isLe (b p) = true
    · rw [if_pos hl, if_neg (by decide)]
      have r := rnE_ge (p := isLe) (b := b) (n := n) _ p rfl
      have hK : tkK b n i = if rnE isLe b n p - p ≤ 8 then kwk (tokL b n p) else 1 := by unfold tkK tokAt; rw [hF, if_neg (by omega), if_pos hl]
      have hP : tkP b n (i + 1) = rnE isLe b n p := by rw [tkP_s, hF]; unfold tokAt; rw [if_neg (by omega), if_pos hl]
      have r2 := r.2.1 hp
      refine (show ∃ m M' L', H_Mod_cut_85 (H_Mod_cut_7 f) (nI p) M L FU (nI 0) (lN (enc 27 (lets b p (min 0 8)))) = some (M', L') ∧ _ from ?_)
      rw [m_lettersL hT hp _ 0 FU rfl (by omega) (by unfold FU; omega)]
      unfold J_Mod_cut_124 J_Mod_cut_135
      have fin : ∀ (kd : Int32) (nm : Int64), kd = nI (phi (tkK b n i)) → (tkK b n i = 2 → nm = lN (enc 27 (tokL b n (tkF b n i)))) → tkK b n i ≠ 3 → ∃ m M' L', J_Mod_cut_179 (H_Mod_cut_7 f) (nI p) (nI (rnE isLe b n p - p)) nm kd M L = some (M', L') ∧ (m ≤ 401 ∧ (m = 401 ∨ 0 < m ∧ tkK b n (m - 1) = 0)) ∧ Ckm b n m M' L' ∧ Eo tkS M M' ∧ (∀ c j, c ≠ 407 → L' c j = L c j) := by
        intro kd nm a1 a2 a3
        unfold J_Mod_cut_179 J_Mod_cut_291
        rw [m_token hk (by omega)]
        rw [bI2_s, nmI_e, nI_add, show p + (rnE isLe b n p - p) = tkP b n (i + 1) by omega]
        exact hgo _ _ _ _ a1 rfl (fun q => absurd q a3) a2 hKn
      have hkw := kwk_pos (tokL b n p)
      have hk3 : kwk (tokL b n p) ≠ 3 := by unfold kwk; split <;> omega
      by_cases h8 : rnE isLe b n p - p ≤ 8
      · rw [if_pos (by rw [show (8 : Int32) = nI 8 from rfl, nI_leI (by omega) (by omega)]; omega), if_neg (by rw [show (8 : Int32) = nI 8 from rfl, nI_ltI (by omega) (by omega)]; omega), show min (rnE isLe b n p - p) 8 = rnE isLe b n p - p by omega]
        rw [if_pos h8] at hK
        refine (show ∃ m M' L', H_Mod_cut_146 (H_Mod_cut_7 f) (nI p) (nI (rnE isLe b n p - p)) (lN (enc 27 (tokL b n p))) M L FU 1 (nI 0) = some (M', L') ∧ _ from ?_)
        rw [m_keysL (l := tokL b n p) hW (by show (lets b p _).length ≤ 8; rw [lets_len]; exact h8) (lets_ok (Nat.le_refl _)) 21 0 FU 1 rfl (by unfold FU; omega) (Or.inl ⟨fun j h => by omega, rfl⟩)]
        exact fin _ _ (by rw [hK]) (fun _ => by rw [hF]) (by rw [hK]; exact hk3)
      · rw [if_neg (by rw [show (8 : Int32) = nI 8 from rfl, nI_leI (by omega) (by omega)]; omega), if_pos (by rw [show (8 : Int32) = nI 8 from rfl, nI_ltI (by omega) (by omega)]; omega)]
        rw [if_neg h8] at hK
        exact fin _ _ (by rw [hK]; rfl) (fun q => by rw [hK] at q; omega) (by rw [hK]; omega)
    · rw [if_neg hl, if_pos rfl, m_isD hb, bI_s]
      by_cases hdg : isDi (b p) = true
      · rw [if_pos hdg, if_neg (by decide)]
        have r := rnE_ge (p := isDi) (b := b) (n := n) _ p rfl
        have r2 := r.2.1 hp
        have hK : tkK b n i = if rnE isDi b n p - p ≤ 4 then 3 else 1 := by unfold tkK tokAt; rw [hF, if_neg (by omega), if_neg hl, if_pos hdg]
        have hV : tkV b n i = enc 10 (digs b p (rnE isDi b n p - p)) := by unfold tkV tokAt; rw [hF, if_neg (by omega), if_neg hl, if_pos hdg]; rfl
        have hP : tkP b n (i + 1) = rnE isDi b n p := by rw [tkP_s, hF]; unfold tokAt; rw [if_neg (by omega), if_neg hl, if_pos hdg]
        refine (show ∃ m M' L', H_Mod_cut_208 (H_Mod_cut_7 f) (nI p) M L FU (nI 0) (nI (enc 10 (digs b p (min 0 4)))) = some (M', L') ∧ _ from ?_)
        rw [m_digL hT hp _ 0 FU rfl (by omega) (by unfold FU; omega)]
        unfold J_Mod_cut_250 J_Mod_cut_261 J_Mod_cut_291
        rw [m_token hk (by omega), m_token hk (by omega)]
        by_cases h4' : rnE isDi b n p - p ≤ 4
        · rw [if_pos (by rw [show (4 : Int32) = nI 4 from rfl, nI_leI (by omega) (by omega)]; omega), show min (rnE isDi b n p - p) 4 = rnE isDi b n p - p by omega]
          rw [if_pos h4'] at hK
          rw [bI2_s, nmI_e, nI_add, show p + (rnE isDi b n p - p) = tkP b n (i + 1) by omega]
          exact hgo _ _ _ _ (by rw [hK]; rfl) rfl (fun _ => by rw [hV]) (fun q => by rw [hK] at q; omega) hKn
        · rw [if_neg (by rw [show (4 : Int32) = nI 4 from rfl, nI_leI (by omega) (by omega)]; omega)]
          rw [if_neg h4'] at hK
          rw [bI2_s, nmI_e, nI_add, show p + (rnE isDi b n p - p) = tkP b n (i + 1) by omega]
          exact hgo _ _ _ _ (by rw [hK]; rfl) rfl (fun q => by rw [hK] at q; omega) (fun q => by rw [hK] at q; omega) hKn
      · rw [if_neg hdg, if_pos rfl]
        have hK : tkK b n i = if isSg (b p) = true then b p else 1 := by unfold tkK tokAt; rw [hF, if_neg (by omega), if_neg hl, if_neg hdg]
        have hP : tkP b n (i + 1) = p + 1 := by rw [tkP_s, hF]; unfold tokAt; rw [if_neg (by omega), if_neg hl, if_neg hdg]
        obtain ⟨x, hx⟩ : ∃ x, F_Mod_byteAt (nI p + 1) M = some x := by
          rw [nI_1]
          rcases Nat.lt_or_ge (p + 1) n with g | g
          · exact ⟨_, m_byte hT g⟩
          · exact ⟨_, m_byteE hT g (by omega)⟩
        rw [hx, bI_s, m_sign hb, m_token hk (by omega)]
        unfold J_Mod_cut_291
        rw [bI2_s, bI3_s, nmI_e, nI_1, ← hP]
        have hsg : ∀ c, isSg c = true → c ≠ 2 ∧ c ≠ 3 := by
          intro c hc
          constructor <;> (intro q; rw [q] at hc; exact absurd hc (by decide))
        refine hgo _ _ _ _ (by rw [hK]) rfl (fun q => ?_) (fun q => ?_) hKn
        · rw [hK] at q; split at q
          · next g => exact absurd q (hsg _ g).2
          · omega
        · rw [hK] at q; split at q
          · next g => exact absurd q (hsg _ g).1
          · omega
theorem m_cut {b : Nat → Nat} {n : Nat} {M : gM} {L : gL} (hT : Tx b n M) (hW : Wdm L) : ∃ m M' L', F_Mod_cut M L = some (M', L') ∧ (m ≤ 401 ∧ (m = 401 ∨ 0 < m ∧ tkK b n (m - 1) = 0)) ∧ Ckm b n m M' L' ∧ Eo tkS M M' ∧ (∀ c j, c ≠ 407 → L' c j = L c j) := by
  unfold F_Mod_cut
  rw [nmM_e]
  have hE : Eo tkS M (uM M 401 10 0) := Eo.rf.u (Or.inr (Or.inr (Or.inr ⟨rfl, rfl⟩)))
  have h2 := hT.2.1
  obtain ⟨m, M', L', g1, g2, g3, g4, g5⟩ := m_cutL n 0 0 FU (uM M 401 10 0) L (by omega) (by omega) (by omega) rfl (by unfold FU; omega) (hT.keep hE) hW uM_same (fun j h => by omega) (fun j h => by omega)
  exact ⟨m, M', L', g1, g2, g3, hE.tr g4, g5⟩
