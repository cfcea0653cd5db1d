/-! what a law comes to, whole -/
section PAR31
/-- a sum's value -/
def sv (N : gM) (vs : Nat → Int32) (a b : Int32) : Option Int32 := bI (evs N a.toInt.toNat vs (b.toInt.toNat - a.toInt.toNat)) (fun s => match s with | x :: _ => some x | [] => none)
def lwv (N : gM) (vs : Nat → Int32) : Nat → Nat → Int32
  | 0, b => (sv N vs (N 429 b) (N 430 b)).getD 0
  | d + 1, b => match sv N vs (N 427 b) (N 428 b), sv N vs (N 428 b) (N 429 b) with
    | some u, some v => if u < v then (sv N vs (N 429 b) (N 430 b)).getD 0 else lwv N vs d (b + 1)
    | _, _ => 0
/-- what the law of a side and a kind tells, plain if it isn't told -/
def lawS (M : gM) (lv w : Nat) (vs : Nat → Int32) (plain : Int32) : Int32 := if M 425 (4 * lv + w) ≤ M 424 (4 * lv + w) then plain else lwv M vs ((M 425 (4 * lv + w)).toInt.toNat - (M 424 (4 * lv + w)).toInt.toNat - 1) (M 424 (4 * lv + w)).toInt.toNat
theorem sv_e {N : gM} {vs : Nat → Int32} {c l : Nat} (h : c + l < 2 ^ 31) : sv N vs (nI c) (nI (c + l)) = bI (evs N c vs l) (fun s => match s with | x :: _ => some x | [] => none) := by
  unfold sv
  rw [nI_tn (by omega), nI_tn (by omega), show c + l - c = l by omega]
theorem sv_s {N : gM} {vs : Nat → Int32} {c l : Nat} {x : Int32} (h : c + l < 2 ^ 31) (e : evs N c vs l = some [x]) : sv N vs (nI c) (nI (c + l)) = some x := by rw [sv_e h, e, bI_s]
theorem sv_n {N : gM} {vs : Nat → Int32} {c l : Nat} (h : c + l < 2 ^ 31) (e : evs N c vs l = none) : sv N vs (nI c) (nI (c + l)) = none := by rw [sv_e h, e]; rfl
theorem evs_keep {N N' : gM} {c : Nat} {vs : Nat → Int32} (h : ∀ j, N' 431 j = N 431 j ∧ N' 432 j = N 432 j) : ∀ l, evs N' c vs l = evs N c vs l := by
  intro l
  induction l with
  | zero => rfl
  | succ l ih =>
    show bI (evs N' c vs l) _ = bI (evs N c vs l) _
    rw [ih, (h (c + l)).1, (h (c + l)).2]
theorem sv_keep {N N' : gM} {vs : Nat → Int32} {a b : Int32} (h : ∀ j, N' 431 j = N 431 j ∧ N' 432 j = N 432 j) : sv N' vs a b = sv N vs a b := by
  unfold sv
  rw [evs_keep h]
theorem lwv_keep {N N' : gM} {vs : Nat → Int32} (h : ∀ c j, 426 ≤ c → c ≤ 432 → N' c j = N c j) : ∀ d b, lwv N' vs d b = lwv N vs d b := by
  have h2 : ∀ j, N' 431 j = N 431 j ∧ N' 432 j = N 432 j := fun j => ⟨h 431 j (by decide) (by decide), h 432 j (by decide) (by decide)⟩
  intro d
  induction d with
  | zero =>
    intro b
    unfold lwv
    rw [sv_keep h2, h 429 b (by decide) (by decide), h 430 b (by decide) (by decide)]
  | succ d ih =>
    intro b
    unfold lwv
    rw [sv_keep h2, sv_keep h2, sv_keep h2, h 427 b (by decide) (by decide), h 428 b (by decide) (by decide), h 429 b (by decide) (by decide), h 430 b (by decide) (by decide), ih]
theorem lawS_keep {M M' : gM} {lv w : Nat} {vs : Nat → Int32} {p : Int32} (h : ∀ c j, 424 ≤ c → c ≤ 432 → M' c j = M c j) : lawS M' lv w vs p = lawS M lv w vs p := by
  unfold lawS
  rw [lwv_keep (fun c j a b => h c j (by omega) b), h 424 _ (by decide) (by decide), h 425 _ (by decide) (by decide)]
theorem lawS_vs {M : gM} {lv w : Nat} {vs vs' : Nat → Int32} {p : Int32} (h : vs = vs') : lawS M lv w vs p = lawS M lv w vs' p := by rw [h]
theorem c_seg0 {N : gM} {W q c l b len : Nat} {vs : Nat → Int32} (h : Sgm N c l) (hq : q + l ≤ len) (h400 : len ≤ 400) (hb1 : b ≤ 1) {F f st : Nat} {M : gM} (hF : F = f + l) (hst : st ≤ q) (hC : ∀ k, k < l → Cd (M (W + 1) (q + k)) (N 431 (c + k)) (N 432 (c + k))) (hlen : M W 1 = nI len) (hv : ∀ i, i < 9 → M (W + 2) i = vs i) :
    (∃ x M', evs N c vs l = some [x] ∧ H_Law_value_6 W F (nI b) (nI q) (nI st) M = H_Law_value_6 W f (nI (b + 1)) (nI (q + l)) (nI (st + l)) M' ∧ M' (W + 3) b = x ∧ Eo (fun c j => c = W + 3 ∧ b ≤ j) M M') ∨
    (∃ M', evs N c vs l = none ∧ H_Law_value_6 W F (nI b) (nI q) (nI st) M = some (0, M') ∧ Eo (fun c j => c = W + 3 ∧ b ≤ j) M M') := by
  subst hF
  exact c_seg h hq h400 hb1 l 0 f st M [] (Nat.zero_add _) rfl hst hC hlen hv trivial
/-- the class, from a branch on -/
theorem c_lawL {W sd w c' len fi k : Nat} {Q : Nat → Nat} {vs : Nat → Int32} {M0 : gM} (hb : ∀ j, j < k → Br (420 * sd) W (fi + j) (Q j) (Q (j + 1)) c' M0 M0 ∧ Q (j + 1) ≤ len) (hl : Ls (420 * sd) W (fi + k) (Q k) len c' M0 M0) (h400 : len ≤ 400) (hc : c' ≤ 840) : ∀ (d j f st : Nat) (M : gM), j + d = k → st ≤ Q j → M W 1 = nI len → (∀ i, M (W + 1) i = M0 (W + 1) i) → (∀ i, i < 9 → M (W + 2) i = vs i) →
    ∃ M', H_Law_value_6 W (f + 402 * (d + 1)) (nI 0) (nI (Q j)) (nI st) M = some (lwv M0 vs d (fi + j), M') ∧ Eo (fun c _ => c = W + 3) M M' := by
  intro d
  induction d with
  | zero =>
    intro j f st M hj hst hlen hC hv
    obtain rfl : j = k := by omega
    obtain ⟨c1, l, x1, x2, x3, x4, x5, x6, x7⟩ := hl
    have hs := c_seg0 (W := W) (q := Q j) (b := 0) (len := len) (vs := vs) (F := f + 402 * (0 + 1)) (f := f + 402 - l) (st := st) (M := M) x4.sgm (by omega) h400 (by decide) (by omega) (by omega) (fun i hi => by rw [hC]; exact x4.2.1 i hi) hlen hv
    unfold lwv
    rw [x2, x3]
    rcases hs with ⟨x, M', y1, y2, y3, y4⟩ | ⟨M', y1, y2, y3⟩
    · rw [y2, sv_s (by omega) y1]
      refine ⟨M', ?_, y4.mono (fun _ _ q => q.1)⟩
      obtain ⟨g, hg⟩ : ∃ g, f + 402 - l = g + 1 := ⟨f + 402 - l - 1, by omega⟩
      rw [hg]
      show B_Law_value_6 W (H_Law_value_6 W g) (nI 1) (nI (Q j + l)) (nI (st + l)) M' = _
      unfold B_Law_value_6 J_Law_value_232
      have hlen' : M' W 1 = nI len := by rw [y4 W 1 (by omega)]; exact hlen
      have hat : F_Main_at (W + 3) 32 0 M' = some x := by
        rw [show (0 : Int32) = nI 0 from rfl, s_at (by omega) (by decide), y3]
      have hle : len ≤ Q j + l := by omega
      rw [hat, bI_s]
      by_cases q : (400 : Int32) ≤ nI (st + l)
      · rw [if_pos q]; rfl
      · rw [if_neg q, if_neg (nI_pos (by omega)), hlen', if_pos (by rw [nI_leI (by omega) (by omega)]; exact hle)]; rfl
    · rw [y2, sv_n (by omega) y1]
      exact ⟨M', rfl, y3.mono (fun _ _ q => q.1)⟩
  | succ d ih =>
    intro j f st M hj hst hlen hC hv
    obtain ⟨⟨c1, l1, l2, l3, x1, x2, x3, x4, x5, x6, x7, x8, x9, x10, x11, x12, x13, x14⟩, xq⟩ := hb j (by omega)
    have hs := c_seg0 (W := W) (q := Q j) (b := 0) (len := len) (vs := vs) (F := f + 402 * (d + 1 + 1)) (f := f + 402 * (d + 1 + 1) - l1) (st := st) (M := M) x6.sgm (by omega) h400 (by decide) (by omega) (by omega) (fun i hi => by rw [hC]; exact x6.2.1 i hi) hlen hv
    unfold lwv
    rw [x2, x3, x4, x5]
    rcases hs with ⟨u, M1, y1, y2, y3, y4⟩ | ⟨M', y1, y2, y3⟩
    rotate_left
    · rw [y2, sv_n (by omega) y1]
      exact ⟨M', rfl, y3.mono (fun _ _ q => q.1)⟩
    have hs2 := c_seg0 (W := W) (q := Q j + l1) (b := 1) (len := len) (vs := vs) (F := f + 402 * (d + 1 + 1) - l1) (f := f + 402 * (d + 1 + 1) - l1 - l2) (st := st + l1) (M := M1) x7.sgm (by omega) h400 (by decide) (by omega) (by omega) (fun i hi => by rw [y4 _ _ (by omega), hC]; exact x7.2.1 i hi) (by rw [y4 _ _ (by omega)]; exact hlen) (fun i hi => by rw [y4 _ _ (by omega)]; exact hv i hi)
    rw [y2, sv_s (by omega) y1, show nI (0 + 1) = nI 1 from rfl]
    rcases hs2 with ⟨v, M2, z1, z2, z3, z4⟩ | ⟨M', z1, z2, z3⟩
    rotate_left
    · rw [z2, sv_n (by omega) z1]
      exact ⟨M', rfl, (y4.mono (fun _ _ q => q.1)).tr (z3.mono (fun _ _ q => q.1))⟩
    rw [z2, sv_s (by omega) z1]
    have hE2 : Eo (fun c _ => c = W + 3) M M2 := (y4.mono (fun _ _ q => q.1)).tr (z4.mono (fun _ _ q => q.1))
    have m2 : ∀ c i, c ≠ W + 3 → M2 c i = M c i := fun c i hc => hE2 c i hc
    have u2 : M2 (W + 3) 0 = u := by rw [z4 _ _ (by omega)]; exact y3
    have hlen2 : M2 W 1 = nI len := by rw [m2 _ _ (by omega)]; exact hlen
    obtain ⟨g, hg⟩ : ∃ g, f + 402 * (d + 1 + 1) - l1 - l2 = g + 1 := ⟨f + 402 * (d + 1 + 1) - l1 - l2 - 1, by omega⟩
    rw [hg]
    -- the '<'
    have hun : ∀ K : Int32 → Int32 → Int32 → gM → Option (Int32 × gM), B_Law_value_6 W K (nI (1 + 1)) (nI (Q j + l1 + l2)) (nI (st + l1 + l2)) M2 = if u < v then K (nI 0) (nI (Q j + l1 + l2 + 2)) (nI (st + l1 + l2 + 1)) M2 else K (nI 0) (nI (Q (j + 1))) (nI (st + l1 + l2 + 1)) M2 := fun K => by
      unfold B_Law_value_6 J_Law_value_185 J_Law_value_226
      have c8 : M2 (W + 1) (Q j + l1 + l2) = nI 20060 := by rw [m2 _ _ (by omega), hC]; exact x8
      have c9 : M2 (W + 1) (Q j + l1 + l2 + 1) = nI (Q (j + 1)) := by rw [m2 _ _ (by omega), hC, x9, x12]
      rw [show (400 : Int32) = nI 400 from rfl, if_neg (by rw [nI_leI (by omega) (by omega)]; omega), if_neg (nI_pos (by omega)), hlen2, if_neg (by rw [nI_leI (by omega) (by omega)]; omega), if_neg (by rw [nI_leI (by omega) (by omega)]; omega), if_neg (nI_in (by omega) (by omega)), nI_clamp (by omega), nmI_e, nmI_e, nI_1, c8, if_neg (show ¬ nI 20060 = 20059 by decide), if_pos (show (20000 : Int32) ≤ nI 20060 by decide), if_neg (show ¬ nI (1 + 1) < 2 by decide), if_pos (show nI (1 + 1) ≤ 32 by decide), if_neg (show ¬ (nI (1 + 1) - 2 < 0 ∨ 32 ≤ (nI (1 + 1) - 2).toNatClampNeg) by decide), nmI_e, show (nI (1 + 1) - 2).toNatClampNeg = 0 by decide, u2, if_neg (show ¬ (nI (1 + 1) - 1 < 0 ∨ 32 ≤ (nI (1 + 1) - 1).toNatClampNeg) by decide), nmI_e, show (nI (1 + 1) - 1).toNatClampNeg = 1 by decide, z3, nmI_e, show nI (1 + 1) + (-2) = nI 0 by decide, if_pos (show nI 20060 = 20060 from rfl)]
      by_cases q : u < v
      · rw [if_neg (i32_nle_of_lt q), if_pos q, nI_1, nmI_e, nI_1]
      · rw [if_pos (i32_le_of_nlt q), if_neg q, s_at (by omega) (by decide), bI_s, c9, nmI_e, nI_1]
    have hB : H_Law_value_6 W (g + 1) (nI (1 + 1)) (nI (Q j + l1 + l2)) (nI (st + l1 + l2)) M2 = B_Law_value_6 W (H_Law_value_6 W g) (nI (1 + 1)) (nI (Q j + l1 + l2)) (nI (st + l1 + l2)) M2 := rfl
    rw [hB, hun]
    dsimp only
    by_cases q : u < v
    · rw [if_pos q, if_pos q]
      have hs3 := c_seg0 (W := W) (q := Q j + l1 + l2 + 2) (b := 0) (len := len) (vs := vs) (F := g) (f := g - l3) (st := st + l1 + l2 + 1) (M := M2) x10.sgm (by omega) h400 (by decide) (by omega) (by omega) (fun i hi => by rw [m2 _ _ (by omega), hC]; exact x10.2.1 i hi) hlen2 (fun i hi => by rw [m2 _ _ (by omega)]; exact hv i hi)
      rcases hs3 with ⟨x, M3, w1, w2, w3, w4⟩ | ⟨M', w1, w2, w3⟩
      · rw [w2, sv_s (by omega) w1]
        refine ⟨M3, ?_, hE2.tr (w4.mono (fun _ _ q => q.1))⟩
        obtain ⟨g2, hg2⟩ : ∃ g2, g - l3 = g2 + 1 := ⟨g - l3 - 1, by omega⟩
        rw [hg2]
        have hB2 : H_Law_value_6 W (g2 + 1) (nI (0 + 1)) (nI (Q j + l1 + l2 + 2 + l3)) (nI (st + l1 + l2 + 1 + l3)) M3 = B_Law_value_6 W (H_Law_value_6 W g2) (nI (0 + 1)) (nI (Q j + l1 + l2 + 2 + l3)) (nI (st + l1 + l2 + 1 + l3)) M3 := rfl
        rw [hB2]
        unfold B_Law_value_6 J_Law_value_53 J_Law_value_232
        have hat : F_Main_at (W + 3) 32 0 M3 = some x := by rw [show (0 : Int32) = nI 0 from rfl, s_at (by omega) (by decide), w3]
        have c11 : M3 (W + 1) (Q j + l1 + l2 + 2 + l3) = nI 20059 := by rw [w4 _ _ (by omega), m2 _ _ (by omega), hC, show Q j + l1 + l2 + 2 + l3 = Q j + l1 + l2 + l3 + 2 by omega]; exact x11
        have hlen3 : M3 W 1 = nI len := by rw [w4 _ _ (by omega)]; exact hlen2
        rw [hat, bI_s]
        rw [show (400 : Int32) = nI 400 from rfl, if_neg (by rw [nI_leI (by omega) (by omega)]; omega), if_neg (nI_pos (by omega)), hlen3, if_neg (by rw [nI_leI (by omega) (by omega)]; omega), if_neg (by rw [nI_leI (by omega) (by omega)]; omega), if_neg (nI_in (by omega) (by omega)), nI_clamp (by omega), nmI_e, nmI_e, c11, if_pos (show nI 20059 = 20059 from rfl)]
        rfl
      · rw [w2, sv_n (by omega) w1]
        exact ⟨M', rfl, hE2.tr (w3.mono (fun _ _ q => q.1))⟩
    · rw [if_neg q, if_neg q]
      obtain ⟨M', w1, w2⟩ := ih (j + 1) (g - 402 * (d + 1)) (st + l1 + l2 + 1) M2 (by omega) (by omega) hlen2 (fun i => by rw [m2 _ _ (by omega)]; exact hC i) (fun i hi => by rw [m2 _ _ (by omega)]; exact hv i hi)
      rw [show g - 402 * (d + 1) + 402 * (d + 1) = g by omega] at w1
      exact ⟨M', w1, hE2.tr w2⟩
/-- the model, from a branch on -/
theorem m_lawL {W sd w c' len fi k : Nat} {Q : Nat → Nat} {vs : Nat → Int32} {M0 : gM} (hsd : sd ≤ 1) (hw : w < 4) (h424 : M0 425 (4 * sd + w) = nI (fi + k + 1)) (hfi : fi + k + 1 ≤ 260) (hb : ∀ j, j < k → Br (420 * sd) W (fi + j) (Q j) (Q (j + 1)) c' M0 M0 ∧ Q (j + 1) ≤ len) (hl : Ls (420 * sd) W (fi + k) (Q k) len c' M0 M0) (hc : c' ≤ 840) : ∀ (d j f : Nat) (M : gM), j + d = k → (∀ c i, 424 ≤ c → c ≤ 432 → M c i = M0 c i) → (∀ i, i < 9 → M 434 i = vs i) → M 401 51 = 0 →
    ∃ M', H_Mod_lawTells_12 (nI (4 * sd + w)) (f + (d + 1)) (nI (fi + j)) M = some (lwv M0 vs d (fi + j), M') ∧ Eo (fun c j => c = 435 ∨ (c = 401 ∧ j = 51)) M M' := by
  have j84 : ∀ (b c1 l : Nat) (M : gM), b < 260 → Sgm M0 c1 l → c1 + l ≤ 840 → M0 429 b = nI c1 → M0 430 b = nI (c1 + l) → (∀ c i, 424 ≤ c → c ≤ 432 → M c i = M0 c i) → (∀ i, i < 9 → M 434 i = vs i) → M 401 51 = 0 → ∃ M', J_Mod_lawTells_84 (nI b) M = some ((sv M0 vs (nI c1) (nI (c1 + l))).getD 0, M') ∧ Eo (fun c j => c = 435 ∨ (c = 401 ∧ j = 51)) M M' := by
    intro b c1 l M hb hS hc e1 e2 hM hv h51
    unfold J_Mod_lawTells_84
    rw [if_neg (nI_in hb (by omega)), if_neg (nI_in hb (by omega)), nI_clamp (by omega), hM 429 b (by decide) (by decide), hM 430 b (by decide) (by decide), e1, e2]
    obtain ⟨r, M', y1, y2, y3⟩ := f_termOf (M := M) (vs := vs) hS hc (fun j => ⟨hM 431 j (by decide) (by decide), hM 432 j (by decide) (by decide)⟩) hv
    rw [y1, bI2_s]
    rcases y3 with ⟨x, z1, z2, z3⟩ | ⟨z1, z2, z3⟩
    · rw [sv_s (by omega) z1, z3, h51, if_pos (by decide), z2]
      exact ⟨M', rfl, y2⟩
    · rw [sv_n (by omega) z1, z3, if_neg (by decide)]
      exact ⟨M', rfl, y2⟩
  intro d
  induction d with
  | zero =>
    intro j f M hj hM hv h51
    obtain rfl : j = k := by omega
    obtain ⟨c1, l, x1, x2, x3, x4, x5, x6, x7⟩ := hl
    show ∃ M', B_Mod_lawTells_12 (nI (4 * sd + w)) (H_Mod_lawTells_12 (nI (4 * sd + w)) f) (nI (fi + j)) M = _ ∧ _
    unfold B_Mod_lawTells_12 lwv
    rw [if_neg (nI_in (by omega) (by omega)), nI_clamp (by omega), hM 425 _ (by decide) (by decide), h424, if_neg (by rw [nI_leI (by omega) (by omega)]; omega), if_neg (nI_in (by omega) (by omega)), nI_clamp (by omega), hM 426 _ (by decide) (by decide), x1, if_pos rfl, x2, x3]
    exact j84 (fi + j) c1 l M (by omega) x4.sgm (by omega) x2 x3 hM hv h51
  | succ d ih =>
    intro j f M hj hM hv h51
    obtain ⟨⟨c1, l1, l2, l3, x1, x2, x3, x4, x5, x6, x7, x8, x9, x10, x11, x12, x13, x14⟩, xq⟩ := hb j (by omega)
    show ∃ M', B_Mod_lawTells_12 (nI (4 * sd + w)) (H_Mod_lawTells_12 (nI (4 * sd + w)) (f + (d + 1))) (nI (fi + j)) M = _ ∧ _
    unfold B_Mod_lawTells_12 lwv
    rw [if_neg (nI_in (by omega) (by omega)), nI_clamp (by omega), hM 425 _ (by decide) (by decide), h424, if_neg (by rw [nI_leI (by omega) (by omega)]; omega), if_neg (nI_in (by omega) (by omega)), nI_clamp (by omega), hM 426 _ (by decide) (by decide), x1, if_neg (show ¬ (1 : Int32) = 0 by decide), hM 427 _ (by decide) (by decide), hM 428 _ (by decide) (by decide), x2, x3, x4, x5, if_neg (nI_inc (by omega) (by omega)), if_neg (nI_inc (by omega) (by omega))]
    obtain ⟨r1, M1, y1, y2, y3⟩ := f_termOf (M := M) (vs := vs) x6.sgm (by omega) (fun j => ⟨hM 431 j (by decide) (by decide), hM 432 j (by decide) (by decide)⟩) hv
    have hM1 : ∀ c i, 424 ≤ c → c ≤ 432 → M1 c i = M0 c i := fun c i a b => (y2 c i (by omega)).trans (hM c i a b)
    have hv1 : ∀ i, i < 9 → M1 434 i = vs i := fun i hi => (y2 434 i (by omega)).trans (hv i hi)
    rw [y1, bI2_s, if_neg (nI_inc (by omega) (by omega)), if_neg (nI_inc (by omega) (by omega)), hM1 428 _ (by decide) (by decide), hM1 429 _ (by decide) (by decide), x3, x4]
    obtain ⟨r2, M2, z1, z2, z3⟩ := f_termOf (M := M1) (vs := vs) x7.sgm (by omega) (fun j => ⟨hM1 431 j (by decide) (by decide), hM1 432 j (by decide) (by decide)⟩) hv1
    have hM2 : ∀ c i, 424 ≤ c → c ≤ 432 → M2 c i = M0 c i := fun c i a b => (z2 c i (by omega)).trans (hM1 c i a b)
    have hv2 : ∀ i, i < 9 → M2 434 i = vs i := fun i hi => (z2 434 i (by omega)).trans (hv1 i hi)
    rw [z1, bI2_s]
    have hE := y2.tr z2
    rcases y3 with ⟨u, w1, w2, w3⟩ | ⟨w1, w2, w3⟩
    rotate_left
    · have e51 : ¬ b01 (M2 401 51) = 0 := by
        rcases z3 with ⟨v, q1, q2, q3⟩ | ⟨q1, q2, q3⟩
        · rw [q3, w3]; decide
        · rw [q3]; decide
      rw [if_neg e51, sv_n (by omega) w1]
      exact ⟨M2, rfl, hE⟩
    rw [sv_s (by omega) w1]
    rcases z3 with ⟨v, q1, q2, q3⟩ | ⟨q1, q2, q3⟩
    rotate_left
    · rw [if_neg (by rw [q3]; decide), sv_n (by omega) q1]
      exact ⟨M2, rfl, hE⟩
    have h51b : M2 401 51 = 0 := by rw [q3, w3]; exact h51
    rw [sv_s (by omega) q1, h51b, if_pos (by decide), w2, q2]
    dsimp only
    by_cases q : u < v
    · rw [if_pos q, if_pos q]
      obtain ⟨M', k1, k2⟩ := j84 (fi + j) (c1 + l1 + l2) l3 M2 (by omega) x10.sgm (by omega) x4 x5 hM2 hv2 h51b
      exact ⟨M', k1, hE.tr k2⟩
    · rw [if_neg q, if_neg q, nmI_e, nI_1]
      obtain ⟨M', k1, k2⟩ := ih (j + 1) f M2 (by omega) hM2 hv2 h51b
      exact ⟨M', k1, hE.tr k2⟩
/-- the class's law -/
theorem c_law {W sd w c i : Nat} {vs : Nat → Int32} {M M0 : gM} {p : Int32} (h : LawR W sd w c i M0 M0) (hc : c ≤ 840) (hi : i ≤ 260) (e1 : M W 1 = M0 W 1) (eC : ∀ i, M (W + 1) i = M0 (W + 1) i) (hv : ∀ i, i < 9 → M (W + 2) i = vs i) : F_Law_isTold W M = some 1 ∧ ∃ M', F_Law_value W M = some (lawS M0 sd w vs p, M') ∧ Eo (fun c _ => c = W + 3) M M' := by
  obtain ⟨fi, k, len, Q, a1, a2, a3, a4, b4, a5, a6, a7, a8, a9⟩ := h
  obtain ⟨c1, l, x1, x2, x3, x4, x5, x6, x7⟩ := id a7
  have hl0 := x4.1
  refine ⟨?_, ?_⟩
  · unfold F_Law_isTold
    rw [e1, a8, if_neg (nI_nle (by omega) (by omega))]
  · unfold F_Law_value lawS
    rw [a1, a2, if_neg (by rw [nI_leI (by omega) (by omega)]; omega), nI_tn (by omega), nI_tn (by omega), show fi + k + 1 - fi - 1 = k by omega]
    obtain ⟨g, hg⟩ := FU_k (402 * (k + 1)) (by omega)
    have r := c_lawL (w := w) (vs := vs) (M0 := M0) a6 a7 a9 hc k 0 g 0 M (Nat.zero_add _) (Nat.zero_le _) (e1.trans a8) eC hv
    rw [a5] at r
    rw [hg]
    exact r
theorem c_law0 {W sd w : Nat} {vs : Nat → Int32} {M M0 : gM} {p : Int32} (h1 : M W 1 = nI 0) (h2 : M0 424 (4 * sd + w) = nI 0) (h3 : M0 425 (4 * sd + w) = nI 0) : F_Law_isTold W M = some 0 ∧ lawS M0 sd w vs p = p := by
  refine ⟨?_, ?_⟩
  · unfold F_Law_isTold
    rw [h1, if_pos (by decide)]
  · unfold lawS
    rw [h2, h3, if_pos (by decide)]
/-- the model's asks -/
theorem m_asks {ld lv w : Nat} {M : gM} {p a b : Int32} {vs : Nat → Int32} (hlv : lv ≤ 1) (hw : w < 4) (h18 : M 401 18 = nI lv) (hL : ∃ c i, Lws ld lv c i M M ∧ c ≤ 420 * lv + 400 ∧ i ≤ 130 * lv + 100) (hv : ∀ i, i < 9 → M 434 i = vs i) : ∃ M', F_Mod_asks (nI w) p a b M = bI (F_Mod_held (lawS M lv w vs p) a b) (fun r => some (r, M')) ∧ Eo (fun c j => c = 435 ∨ (c = 401 ∧ j = 51)) M M' := by
  obtain ⟨c, i, hL, hc, hi⟩ := hL
  unfold F_Mod_asks
  rw [h18, show (4 : Int32) = nI 4 from rfl, nI_mul, nI_add, nmI_e, if_neg (nI_in (by omega) (by omega)), if_neg (nI_in (by omega) (by omega)), nI_clamp (by omega)]
  unfold J_Mod_asks_38
  rcases hL w hw with ⟨z1, z2, z3⟩ | hL
  · unfold lawS
    rw [z2, z3, if_pos (by decide), if_pos (by decide)]
    exact ⟨M, rfl, Eo.rf⟩
  · obtain ⟨fi, k, len, Q, a1, a2, a3, a4, b4, a5, a6, a7, a8, a9⟩ := hL
    unfold lawS F_Mod_lawTells
    rw [a1, a2, if_neg (by rw [nI_leI (by omega) (by omega)]; omega), if_neg (by rw [nI_leI (by omega) (by omega)]; omega), nI_tn (by omega), nI_tn (by omega), show fi + k + 1 - fi - 1 = k by omega, nmM_e, if_neg (nI_in (by omega) (by omega)), nI_clamp (by omega), uM_diff (by omega), a1, nmI_e]
    obtain ⟨g, hg⟩ := FU_k (k + 1) (by omega)
    obtain ⟨M', y1, y2⟩ := m_lawL (vs := vs) (M0 := M) hlv hw a2 (by omega) a6 a7 (by omega) k 0 g (uM M 401 51 0) (Nat.zero_add _) (fun c i x y => uM_diff (by omega)) (fun i hi => by rw [uM_diff (by omega)]; exact hv i hi) uM_same
    have y1' : H_Mod_lawTells_12 (nI (4 * lv + w)) (g + (k + 1)) (nI fi) (uM M 401 51 0) = some (lwv M vs k fi, M') := y1
    rw [hg, y1', bI2_s]
    exact ⟨M', rfl, Eo.tr (Eo.rf.u (Or.inr ⟨rfl, rfl⟩)) y2⟩
end PAR31
