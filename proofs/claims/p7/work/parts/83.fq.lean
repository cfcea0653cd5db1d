def P3 (c _ : Nat) : Bool := c == 3 || (decide (10 ≤ c) && decide (c < 12))
def PW (x c j : Nat) : Bool := P3 c j || (decide (x ≤ c) && decide (c < x + 2))
def PD (x c j : Nat) : Bool := P3 c j || (decide (x ≤ c) && decide (c < x + 26) && !(c == x + 11) && !(c == x + 15) && !(c == x + 19) && !(c == x + 23))
theorem PD_t {x c j : Nat} : PD x c j = true ↔ (c = 3 ∨ c = 10 ∨ c = 11 ∨ (x ≤ c ∧ c < x + 26 ∧ c ≠ x + 11 ∧ c ≠ x + 15 ∧ c ≠ x + 19 ∧ c ≠ x + 23)) := by
  simp only [PD, P3, Bool.or_eq_true, Bool.and_eq_true, decide_eq_true_eq, beq_iff_eq, Bool.not_eq_true', beq_eq_false_iff_ne]
  omega
theorem PD_n {x c j : Nat} (h : PD x c j = false) : ¬ (c = 3 ∨ c = 10 ∨ c = 11 ∨ (x ≤ c ∧ c < x + 26 ∧ c ≠ x + 11 ∧ c ≠ x + 15 ∧ c ≠ x + 19 ∧ c ≠ x + 23)) := fun q => by
  rw [PD_t.mpr q] at h; cases h
theorem PD_m {x c j : Nat} (h : ¬ (c = 3 ∨ c = 10 ∨ c = 11 ∨ (x ≤ c ∧ c < x + 26 ∧ c ≠ x + 11 ∧ c ≠ x + 15 ∧ c ≠ x + 19 ∧ c ≠ x + 23))) : PD x c j = false := by
  cases e : PD x c j with
  | false => rfl
  | true => exact absurd (PD_t.mp e) h
theorem P3_PW {x : Nat} : ∀ c j, P3 c j = true → PW x c j = true := fun c j h => by unfold PW; rw [h]; rfl
theorem P3_PD {x : Nat} : ∀ c j, P3 c j = true → PD x c j = true := fun c j h => by unfold PD; rw [h]; rfl
theorem PW_PD {x k : Nat} (hk : k = 9 ∨ k = 13 ∨ k = 17 ∨ k = 21) : ∀ c j, PW (x + k) c j = true → PD x c j = true := fun c j h => by
  unfold PW P3 at h
  rw [PD_t]
  simp only [Bool.or_eq_true, Bool.and_eq_true, decide_eq_true_eq, beq_iff_eq] at h
  omega
theorem PW_o {x c j : Nat} (h : x ≤ c ∧ c < x + 2) : PW x c j = true := by simp [PW, h.1, h.2]
theorem PD_o {x c j : Nat} (h : x ≤ c ∧ (c < x + 26 ∧ c ≠ x + 11 ∧ c ≠ x + 15 ∧ c ≠ x + 19 ∧ c ≠ x + 23)) : PD x c j = true := PD_t.mpr (by omega)
/-- what a part of the reader does: it writes in S alone, of the longs in the values and the names alone; a fault that stands stays -/
def Kq (S : Nat → Nat → Bool) (M : gM) (L : gL) (M' : gM) (L' : gL) : Prop := (∀ c j, S c j = false → M' c j = M c j) ∧ (∀ c j, c ≠ 8 → c ≠ 9 → L' c j = L c j) ∧ (M 3 2 ≠ 0 → M' 3 2 = M 3 2 ∧ M' 3 3 = M 3 3)
section KQ
variable {S : Nat → Nat → Bool} {M M1 M2 : gM} {L L1 L2 : gL}
theorem Kq.rf : Kq S M L M L := ⟨fun _ _ _ => rfl, fun _ _ _ _ => rfl, fun _ => ⟨rfl, rfl⟩⟩
theorem Kq.trans (h : Kq S M L M1 L1) (g : Kq S M1 L1 M2 L2) : Kq S M L M2 L2 := ⟨fun c j q => (g.1 c j q).trans (h.1 c j q), fun c j q r => (g.2.1 c j q r).trans (h.2.1 c j q r), fun q => by
  have h3 := h.2.2 q
  have g3 := g.2.2 (by rw [h3.1]; exact q)
  exact ⟨g3.1.trans h3.1, g3.2.trans h3.2⟩⟩
theorem Kq.mono {S' : Nat → Nat → Bool} (h : Kq S M L M1 L1) (f : ∀ c j, S c j = true → S' c j = true) : Kq S' M L M1 L1 := ⟨fun c j q => h.1 c j (by
  cases e : S c j with
  | false => rfl
  | true => rw [f c j e] at q; cases q), h.2.1, h.2.2⟩
theorem Kq.wM {a i : Nat} {x : Int32} (h : Kq S M L M1 L1) (ha : S a i = true) (hn : ¬ (a = 3 ∧ (i = 2 ∨ i = 3))) (e : M2 = uM M1 a i x) : Kq S M L M2 L1 := by
  subst e
  refine h.trans ⟨fun c j q => uM_diff (fun w => by rw [w.1, w.2, ha] at q; cases q), fun _ _ _ _ => rfl, fun _ => ⟨uM_diff (by omega), uM_diff (by omega)⟩⟩
theorem Kq.wL {i : Nat} {x : Int64} (h : Kq S M L M1 L1) (e : L2 = uL L1 9 i x) : Kq S M L M1 L2 := by
  subst e
  exact ⟨h.1, fun c j q r => by rw [uL_ne _ _ _ r]; exact h.2.1 c j q r, h.2.2⟩
theorem Kq.one {a : Nat} (h : Kl (oneL a) M zL M1 zL) (ha : ∀ j, S a j = true) (hn : a ≠ 3) : Kq S M L M1 L := ⟨fun c j q => Kl.m h (by
  unfold oneL
  rw [beq_eq_false_iff_ne]
  intro w
  rw [w, ha] at q; cases q), fun _ _ _ _ => rfl, fun _ => ⟨Kl.m h (by unfold oneL; rw [beq_eq_false_iff_ne]; omega), Kl.m h (by unfold oneL; rw [beq_eq_false_iff_ne]; omega)⟩⟩
end KQ
theorem La_12 {x : Nat} (h : isLa x) : 12 ≤ x := (by decide +kernel : ∀ x ∈ lLa, 12 ≤ x) x h
theorem Lw_12 {x : Nat} (h : isLw x) : 12 ≤ x := (by decide +kernel : ∀ x ∈ lLw, 12 ≤ x) x h
theorem tq_Reader_stop {p1 : Int32} {M : gM} {L : gL} : ∃ M', F_Reader_stop p1 M = some M' ∧ Kq P3 M L M' L := by
  unfold F_Reader_stop
  by_cases h : M 3 2 = 0
  · rw [if_pos h]
    refine ⟨_, rfl, fun c j q => ?_, fun _ _ _ _ => rfl, fun q => absurd h q⟩
    have hc : c ≠ 3 := fun w => by rw [w, (rfl : P3 3 j = true)] at q; cases q
    rw [uM_diff (fun w => hc w.1), uM_diff (fun w => hc w.1)]
  · rw [if_neg h]
    exact ⟨_, rfl, Kq.rf⟩
set_option maxHeartbeats 4000000 in
set_option maxRecDepth 20000 in
theorem tq_Law_add {Wl0 : Nat} {p1 : Int32} {M : gM} {L : gL} (hWl0 : isLw Wl0) : ∃ M', F_Law_add Wl0 p1 M = some M' ∧ Kq (PW Wl0) M L M' L := by
  show Ok _ _
  unfold F_Law_add
  refine Ok.ite (fun h1 => ?_) (fun h1 => ?_)
  · exact ⟨_, rfl, Kq.rf⟩
  · refine Ok.ite (fun h2 => ?_) (fun h2 => ?_)
    · exact ⟨_, rfl, Kq.rf⟩
    · refine Ok.gd (vin_of h1 h2 (by decide)) ?_
      refine Ok.nmM (fun M3 eM3 => ?_)
      refine Ok.nmM (fun M4 eM4 => ?_)
      exact ⟨_, rfl, (Kq.wM (Kq.wM Kq.rf (PW_o ⟨by omega, by omega⟩) (fun q => absurd q.1 (by have := Lw_12 hWl0; omega)) eM3) (PW_o ⟨by omega, by omega⟩) (fun q => absurd q.1 (by have := Lw_12 hWl0; omega)) eM4)⟩
set_option maxHeartbeats 4000000 in
set_option maxRecDepth 20000 in
theorem tq_Law_clear {Wl0 : Nat} {M : gM} {L : gL} (hWl0 : isLw Wl0) : ∃ M', F_Law_clear Wl0 M = some M' ∧ Kq (PW Wl0) M L M' L := by
  show Ok _ _
  unfold F_Law_clear
  refine Ok.nmM (fun M5 eM5 => ?_)
  exact ⟨_, rfl, (Kq.wM Kq.rf (PW_o ⟨by omega, by omega⟩) (fun q => absurd q.1 (by have := Lw_12 hWl0; omega)) eM5)⟩
set_option maxHeartbeats 4000000 in
set_option maxRecDepth 20000 in
theorem tq_Reader_indexOf {p1 : Int64} {M : gM} {L : gL} : ∃ r, F_Reader_indexOf p1 M L = some r ∧ True := by
  show Ok _ _
  unfold F_Reader_indexOf
  have LP9 : ∀ (f6 : Nat) (v10 : Int32), ¬ v10 < 0 → ((M 3 8).toInt - v10.toInt).toNat < f6 → Ok (H_Reader_indexOf_2 p1 M L f6 v10) (fun r => True) := by
    intro f6
    induction f6 with
    | zero => intro v10 _ hm8; exact absurd hm8 (Nat.not_lt_zero _)
    | succ f6 ih7 =>
      intro v10 n11 hm8
      show Ok (B_Reader_indexOf_2 p1 M L (H_Reader_indexOf_2 p1 M L f6) v10) _
      unfold B_Reader_indexOf_2
      refine Ok.ite (fun h12 => ?_) (fun h12 => ?_)
      · exact ⟨_, rfl, trivial⟩
      · refine Ok.ite (fun h13 => ?_) (fun h13 => ?_)
        · exact ⟨_, rfl, trivial⟩
        · refine Ok.gd (vin_of n11 h13 (by decide)) ?_
          refine Ok.ite (fun h14 => ?_) (fun h14 => ?_)
          · exact ⟨_, rfl, trivial⟩
          · refine Ok.nmI (fun x15 ex15 => ?_)
            exact ih7 x15 (nn_up (y := (M 3 8)) h12 ex15 n11) (md_up h12 ex15 hm8)
  exact LP9 _ 0 (by decide) fu_up
set_option maxHeartbeats 4000000 in
set_option maxRecDepth 20000 in
theorem tq_Reader_rank {p1 : Int32}  : ∃ r, F_Reader_rank p1 = some r ∧ True := by
  show Ok _ _
  unfold F_Reader_rank
  refine Ok.ite (fun h16 => ?_) (fun h16 => ?_)
  · exact ⟨_, rfl, trivial⟩
  · refine Ok.ite (fun h17 => ?_) (fun h17 => ?_)
    · exact ⟨_, rfl, trivial⟩
    · refine Ok.ite (fun h18 => ?_) (fun h18 => ?_)
      · unfold J_Reader_rank_26
        exact ⟨_, rfl, trivial⟩
      · refine Ok.ite (fun h19 => ?_) (fun h19 => ?_)
        · unfold J_Reader_rank_26
          exact ⟨_, rfl, trivial⟩
        · exact ⟨_, rfl, trivial⟩
set_option maxHeartbeats 4000000 in
set_option maxRecDepth 20000 in
theorem tq_Reader_stopLate {p1 : Int32} {M : gM} {L : gL} : ∃ M', F_Reader_stopLate p1 M = some M' ∧ Kq P3 M L M' L := by
  show Ok _ _
  unfold F_Reader_stopLate
  refine Ok.ite (fun h20 => ?_) (fun h20 => ?_)
  · refine Ok.nmM (fun M21 eM21 => ?_)
    refine Ok.nmM (fun M22 eM22 => ?_)
    exact ⟨_, rfl, (Kq.wM (Kq.wM Kq.rf (rfl) (by decide) eM21) (rfl) (by decide) eM22)⟩
  · exact ⟨_, rfl, Kq.rf⟩
set_option maxHeartbeats 4000000 in
set_option maxRecDepth 20000 in
theorem tq_Tokens_valueAt {p1 : Int32} {L : gL} : ∃ r, F_Tokens_valueAt p1 L = some r ∧ True := by
  show Ok _ _
  unfold F_Tokens_valueAt
  refine Ok.ite (fun h23 => ?_) (fun h23 => ?_)
  · exact ⟨_, rfl, trivial⟩
  · refine Ok.ite (fun h24 => ?_) (fun h24 => ?_)
    · exact ⟨_, rfl, trivial⟩
    · refine Ok.gd (vin_of h23 h24 (by decide)) ?_
      exact ⟨_, rfl, trivial⟩
set_option maxHeartbeats 4000000 in
set_option maxRecDepth 20000 in
theorem tq_Land_clear {Ld0 : Nat} {M : gM} {L : gL} (hLd0 : isLa Ld0) : ∃ M', F_Land_clear Ld0 M = some M' ∧ Kq (PD Ld0) M L M' L := by
  show Ok _ _
  unfold F_Land_clear
  refine Ok.nmM (fun M25 eM25 => ?_)
  refine Ok.nmM (fun M26 eM26 => ?_)
  refine Ok.nmM (fun M27 eM27 => ?_)
  refine Ok.nmM (fun M28 eM28 => ?_)
  refine Ok.nmM (fun M29 eM29 => ?_)
  refine Ok.c1 (tf_Main_wipe (by decide)) (fun M30 k31 => ?_)
  refine Ok.c1 (tq_Law_clear (L := L) (isLw_9 hLd0)) (fun M32 k33 => ?_)
  refine Ok.c1 (tq_Law_clear (L := L) (isLw_13 hLd0)) (fun M34 k35 => ?_)
  refine Ok.c1 (tq_Law_clear (L := L) (isLw_17 hLd0)) (fun M36 k37 => ?_)
  refine Ok.c1 (tq_Law_clear (L := L) (isLw_21 hLd0)) (fun M38 k39 => ?_)
  exact ⟨_, rfl, (Kq.trans (Kq.trans (Kq.trans (Kq.trans (Kq.trans (Kq.wM (Kq.wM (Kq.wM (Kq.wM (Kq.wM Kq.rf (PD_o ⟨by omega, by omega⟩) (fun q => absurd q.1 (by have := La_12 hLd0; omega)) eM25) (PD_o ⟨by omega, by omega⟩) (fun q => absurd q.1 (by have := La_12 hLd0; omega)) eM26) (PD_o ⟨by omega, by omega⟩) (fun q => absurd q.1 (by have := La_12 hLd0; omega)) eM27) (PD_o ⟨by omega, by omega⟩) (fun q => absurd q.1 (by have := La_12 hLd0; omega)) eM28) (PD_o ⟨by omega, by omega⟩) (fun q => absurd q.1 (by have := La_12 hLd0; omega)) eM29) (Kq.one k31 (fun _ => PD_o ⟨by omega, by omega⟩) (by have := La_12 hLd0; omega))) (Kq.mono k33 (PW_PD (k := 9) (by decide)))) (Kq.mono k35 (PW_PD (k := 13) (by decide)))) (Kq.mono k37 (PW_PD (k := 17) (by decide)))) (Kq.mono k39 (PW_PD (k := 21) (by decide))))⟩
set_option maxHeartbeats 4000000 in
set_option maxRecDepth 20000 in
theorem tq_Law_closeIf {Wl0 : Nat} {p1 : Int32} {M : gM} {L : gL} (hWl0 : isLw Wl0) : ∃ M', F_Law_closeIf Wl0 p1 M = some M' ∧ Kq (PW Wl0) M L M' L := by
  show Ok _ _
  unfold F_Law_closeIf
  refine Ok.c1 (tq_Law_add (L := L) hWl0) (fun M40 k41 => ?_)
  refine Ok.c1 (tf_Main_put (by decide)) (fun M42 k43 => ?_)
  exact ⟨_, rfl, (Kq.trans (Kq.trans Kq.rf k41) (Kq.one k43 (fun _ => PW_o ⟨by omega, by omega⟩) (by have := Lw_12 hWl0; omega)))⟩
set_option maxHeartbeats 4000000 in
set_option maxRecDepth 20000 in
theorem tq_Law_openIf {Wl0 : Nat} {M : gM} {L : gL} (hWl0 : isLw Wl0) : ∃ r M', F_Law_openIf Wl0 M = some (r, M') ∧ True ∧ Kq (PW Wl0) M L M' L := by
  refine Ok.x2 (A := fun r M' => True ∧ Kq (PW Wl0) M L M' L) ?_
  unfold F_Law_openIf
  refine Ok.c1 (tq_Law_add (L := L) hWl0) (fun M44 k45 => ?_)
  refine Ok.c1 (tq_Law_add (L := L) hWl0) (fun M46 k47 => ?_)
  exact ⟨_, rfl, trivial, (Kq.trans (Kq.trans Kq.rf k45) k47)⟩
set_option maxHeartbeats 4000000 in
set_option maxRecDepth 20000 in
theorem tq_Reader_holdSign {p1 : Int32} {M : gM} {L : gL} : ∃ M', F_Reader_holdSign p1 M = some M' ∧ Kq P3 M L M' L := by
  show Ok _ _
  unfold F_Reader_holdSign
  refine Ok.c1 (tf_Main_put (by decide)) (fun M48 k49 => ?_)
  refine Ok.nmM (fun M50 eM50 => ?_)
  exact ⟨_, rfl, (Kq.wM (Kq.trans Kq.rf (Kq.one k49 (fun _ => rfl) (by decide))) (rfl) (by decide) eM50)⟩
set_option maxHeartbeats 4000000 in
set_option maxRecDepth 20000 in
theorem tq_Reader_is {p1 : Int32} {M : gM}  : ∃ r, F_Reader_is p1 M = some r ∧ (r = 0 ∨ r = 1) := by
  show Ok _ _
  unfold F_Reader_is
  refine Ok.c1 (tf_Main_at (by decide)) (fun r51 _ => ?_)
  refine Ok.ite (fun h52 => ?_) (fun h52 => ?_)
  · exact ⟨_, rfl, (Or.inr rfl)⟩
  · exact ⟨_, rfl, (Or.inl rfl)⟩
theorem la_add {Wl : Nat} {x : Int32} {M : gM} : ∃ M', F_Law_add Wl x M = some M' ∧ ∀ c j, c ≠ Wl → c ≠ Wl + 1 → M' c j = M c j := by
  unfold F_Law_add
  by_cases h1 : M Wl 1 < 0
  · rw [if_pos h1]; exact ⟨_, rfl, fun _ _ _ _ => rfl⟩
  rw [if_neg h1]
  by_cases h2 : 400 ≤ M Wl 1
  · rw [if_pos h2]; exact ⟨_, rfl, fun _ _ _ _ => rfl⟩
  rw [if_neg h2, if_neg (vin_of h1 (by exact h2) (by decide) : ¬ (M Wl 1 < 0 ∨ 400 ≤ (M Wl 1).toNatClampNeg)), nmM_e, nmM_e]
  exact ⟨_, rfl, fun c j g1 g2 => by rw [uM_diff (fun q => g1 q.1), uM_diff (fun q => g2 q.1)]⟩
theorem layL {Wl : Nat} {p : Int32} {L : gL} (hW : isLw Wl) : ∀ (f : Nat) (M : gM), (M 3 10).toInt.toNat < f → ∃ M', H_Reader_layHeld_0 Wl p f M = some M' ∧ Kq (PW Wl) M L M' L := by
  have h12 := Lw_12 hW
  intro f
  induction f with
  | zero => intro M h; exact absurd h (Nat.not_lt_zero _)
  | succ f ih =>
    intro M h
    show ∃ M', B_Reader_layHeld_0 Wl p (H_Reader_layHeld_0 Wl p f) M = some M' ∧ _
    unfold B_Reader_layHeld_0
    by_cases h0 : M 3 10 ≤ 0
    · rw [if_pos h0]; exact ⟨_, rfl, Kq.rf⟩
    rw [if_neg h0]
    obtain ⟨r1, e1, -⟩ := tf_Main_at (a1 := 11) (N1 := 32) (p2 := M 3 10 - 1) (M := M) (by decide)
    obtain ⟨r2, e2, -⟩ := tq_Reader_rank (p1 := r1)
    rw [e1, bI_s, e2, bI_s]
    by_cases h2 : r2 < p
    · rw [if_pos h2]; exact ⟨_, rfl, Kq.rf⟩
    rw [if_neg h2, nmM_e]
    obtain ⟨r3, e3, -⟩ := tf_Main_at (a1 := 11) (N1 := 32) (p2 := uM M 3 10 (M 3 10 - 1) 3 10) (M := uM M 3 10 (M 3 10 - 1)) (by decide)
    rw [e3, bI_s]
    obtain ⟨M', e4, h4⟩ := la_add (Wl := Wl) (x := 20000 + r3) (M := uM M 3 10 (M 3 10 - 1))
    obtain ⟨M9, e5, h5⟩ := tq_Law_add (Wl0 := Wl) (p1 := 20000 + r3) (M := uM M 3 10 (M 3 10 - 1)) (L := L) hW
    have e6 : M9 = M' := Option.some.inj (e5.symm.trans e4)
    subst e6
    rw [e4, bI_s]
    have hk : Kq (PW Wl) M L (uM M 3 10 (M 3 10 - 1)) L := Kq.wM Kq.rf (P3_PW _ _ rfl) (by decide) rfl
    obtain ⟨M2, g1, g2⟩ := ih M9 (by
      rw [h4 3 10 (by omega) (by omega), uM_same]
      exact md_lay h0 rfl h)
    exact ⟨M2, g1, (hk.trans h5).trans g2⟩
theorem tq_Reader_layHeld {Wl1 : Nat} {p2 : Int32} {M : gM} {L : gL} (hWl1 : isLw Wl1) : ∃ M', F_Reader_layHeld Wl1 p2 M = some M' ∧ Kq (PW Wl1) M L M' L := layL hWl1 FU M (by have := i_b (M 3 10); unfold FU; omega)

set_option maxHeartbeats 4000000 in
set_option maxRecDepth 20000 in
theorem tq_Reader_take  {M : gM} {L : gL} : ∃ M', F_Reader_take M = some M' ∧ Kq P3 M L M' L := by
  show Ok _ _
  unfold F_Reader_take
  refine Ok.ite (fun h53 => ?_) (fun h53 => ?_)
  · refine Ok.ite (fun h54 => ?_) (fun h54 => ?_)
    · refine Ok.nmM (fun M55 eM55 => ?_)
      exact ⟨_, rfl, (Kq.wM Kq.rf (rfl) (by decide) eM55)⟩
    · refine Ok.c1 (tq_Reader_stop (L := L) ) (fun M56 k57 => ?_)
      exact ⟨_, rfl, (Kq.trans Kq.rf k57)⟩
  · exact ⟨_, rfl, Kq.rf⟩
set_option maxHeartbeats 4000000 in
set_option maxRecDepth 20000 in
theorem tq_Reader_need {p1 : Int32} {M : gM} {L : gL} : ∃ M', F_Reader_need p1 M = some M' ∧ Kq P3 M L M' L := by
  show Ok _ _
  unfold F_Reader_need
  refine Ok.c1 (tq_Reader_is ) (fun r58 hbr58 => ?_)
  refine Ok.ite (fun h59 => ?_) (fun h59 => ?_)
  · refine Ok.c1 (tq_Reader_stop (L := L) ) (fun M60 k61 => ?_)
    exact ⟨_, rfl, (Kq.trans Kq.rf k61)⟩
  · refine Ok.c1 (tq_Reader_take (L := L) ) (fun M62 k63 => ?_)
    exact ⟨_, rfl, (Kq.trans Kq.rf k63)⟩
set_option maxHeartbeats 4000000 in
set_option maxRecDepth 20000 in
theorem tq_Reader_takeClose {Wl1 : Nat} {M : gM} {L : gL} (hWl1 : isLw Wl1) : ∃ M', F_Reader_takeClose Wl1 M = some M' ∧ Kq (PW Wl1) M L M' L := by
  show Ok _ _
  unfold F_Reader_takeClose
  refine Ok.c1 (tq_Reader_is ) (fun r64 hbr64 => ?_)
  refine Ok.ite (fun h65 => ?_) (fun h65 => ?_)
  · refine Ok.c1 (tq_Reader_stop (L := L) ) (fun M66 k67 => ?_)
    exact ⟨_, rfl, (Kq.trans Kq.rf (Kq.mono k67 P3_PW))⟩
  · refine Ok.c1 (tq_Reader_layHeld (L := L) hWl1) (fun M68 k69 => ?_)
    refine Ok.nmM (fun M70 eM70 => ?_)
    refine Ok.nmM (fun M71 eM71 => ?_)
    refine Ok.c1 (tq_Reader_take (L := L) ) (fun M72 k73 => ?_)
    exact ⟨_, rfl, (Kq.trans (Kq.wM (Kq.wM (Kq.trans Kq.rf k69) ((P3_PW _ _ rfl)) (by decide) eM70) ((P3_PW _ _ rfl)) (by decide) eM71) (Kq.mono k73 P3_PW))⟩
set_option maxHeartbeats 4000000 in
set_option maxRecDepth 20000 in
theorem tq_Reader_takeSign {Wl1 : Nat} {M : gM} {L : gL} (hWl1 : isLw Wl1) : ∃ M', F_Reader_takeSign Wl1 M = some M' ∧ Kq (PW Wl1) M L M' L := by
  show Ok _ _
  unfold F_Reader_takeSign
  refine Ok.c1 (tf_Main_at (by decide)) (fun r74 _ => ?_)
  refine Ok.c1 (tq_Reader_rank ) (fun r75 _ => ?_)
  refine Ok.c1 (tq_Reader_layHeld (L := L) hWl1) (fun M76 k77 => ?_)
  refine Ok.c1 (tq_Reader_holdSign (L := L) ) (fun M78 k79 => ?_)
  refine Ok.c1 (tq_Reader_take (L := L) ) (fun M80 k81 => ?_)
  exact ⟨_, rfl, (Kq.trans (Kq.trans (Kq.trans Kq.rf k77) (Kq.mono k79 P3_PW)) (Kq.mono k81 P3_PW))⟩
set_option maxHeartbeats 4000000 in
set_option maxRecDepth 20000 in
theorem tq_Reader_takeUnit {Wl1 : Nat} {M : gM} {L : gL} (hWl1 : isLw Wl1) : ∃ r M', F_Reader_takeUnit Wl1 M L = some (r, M') ∧ (r = 0 ∨ r = 1) ∧ Kq (PW Wl1) M L M' L := by
  refine Ok.x2 (A := fun r M' => (r = 0 ∨ r = 1) ∧ Kq (PW Wl1) M L M' L) ?_
  unfold F_Reader_takeUnit
  refine Ok.c1 (tf_Main_at (by decide)) (fun r82 _ => ?_)
  refine Ok.ite (fun h83 => ?_) (fun h83 => ?_)
  · refine Ok.ite (fun h84 => ?_) (fun h84 => ?_)
    · refine Ok.nmM (fun M85 eM85 => ?_)
      refine Ok.c1 (tq_Reader_holdSign (L := L) ) (fun M86 k87 => ?_)
      refine Ok.c1 (tq_Reader_take (L := L) ) (fun M88 k89 => ?_)
      exact ⟨_, rfl, (Or.inr rfl), (Kq.trans (Kq.trans (Kq.wM Kq.rf ((P3_PW _ _ rfl)) (by decide) eM85) (Kq.mono k87 P3_PW)) (Kq.mono k89 P3_PW))⟩
    · refine Ok.c1 (tq_Reader_stop (L := L) ) (fun M90 k91 => ?_)
      exact ⟨_, rfl, (Or.inr rfl), (Kq.trans Kq.rf (Kq.mono k91 P3_PW))⟩
  · refine Ok.ite (fun h92 => ?_) (fun h92 => ?_)
    · refine Ok.c1 (tq_Tokens_valueAt ) (fun r93 _ => ?_)
      refine Ok.c1 (tq_Law_add (L := L) hWl1) (fun M94 k95 => ?_)
      refine Ok.c1 (tq_Reader_take (L := L) ) (fun M96 k97 => ?_)
      exact ⟨_, rfl, (Or.inl rfl), (Kq.trans (Kq.trans Kq.rf k95) (Kq.mono k97 P3_PW))⟩
    · refine Ok.c1 (tf_Main_isOne ) (fun r98 hbr98 => ?_)
      refine Ok.ite (fun h99 => ?_) (fun h99 => ?_)
      · refine Ok.c1 (tq_Reader_stop (L := L) ) (fun M100 k101 => ?_)
        exact ⟨_, rfl, (Or.inl rfl), (Kq.trans Kq.rf (Kq.mono k101 P3_PW))⟩
      · refine Ok.c1 (tq_Law_add (L := L) hWl1) (fun M102 k103 => ?_)
        refine Ok.c1 (tq_Reader_take (L := L) ) (fun M104 k105 => ?_)
        exact ⟨_, rfl, (Or.inl rfl), (Kq.trans (Kq.trans Kq.rf k103) (Kq.mono k105 P3_PW))⟩
set_option maxHeartbeats 4000000 in
set_option maxRecDepth 20000 in
theorem tq_Reader_takeIngredient {Ld1 : Nat} {p2 : Int32} {M : gM} {L : gL} (hLd1 : isLa Ld1) : ∃ M', F_Reader_takeIngredient Ld1 p2 M L = some M' ∧ Kq (PD Ld1) M L M' L := by
  show Ok _ _
  unfold F_Reader_takeIngredient
  refine Ok.c1 (tq_Reader_is ) (fun r106 hbr106 => ?_)
  refine Ok.ite (fun h107 => ?_) (fun h107 => ?_)
  · unfold J_Reader_takeIngredient_78
    refine Ok.c1 (tq_Reader_need (L := L) ) (fun M108 k109 => ?_)
    exact ⟨_, rfl, (Kq.trans Kq.rf (Kq.mono k109 P3_PD))⟩
  · refine Ok.c1 (tq_Tokens_valueAt ) (fun r110 _ => ?_)
    refine Ok.c1 (tq_Reader_indexOf ) (fun r111 _ => ?_)
    refine Ok.ite (fun h112 => ?_) (fun h112 => ?_)
    · refine Ok.c1 (tf_Main_at (by decide)) (fun r113 _ => ?_)
      unfold J_Reader_takeIngredient_40
      refine Ok.ite (fun h114 => ?_) (fun h114 => ?_)
      · refine Ok.c1 (tf_Land_inDish hLd1) (fun r115 _ => ?_)
        refine Ok.c1 (tf_Main_put (by decide)) (fun M116 k117 => ?_)
        unfold J_Reader_takeIngredient_78
        refine Ok.c1 (tq_Reader_need (L := L) ) (fun M118 k119 => ?_)
        exact ⟨_, rfl, (Kq.trans (Kq.trans Kq.rf (Kq.one k117 (fun _ => PD_o ⟨by omega, by omega⟩) (by have := La_12 hLd1; omega))) (Kq.mono k119 P3_PD))⟩
      · refine Ok.c1 (tq_Reader_stopLate (L := L) ) (fun M120 k121 => ?_)
        unfold J_Reader_takeIngredient_78
        refine Ok.c1 (tq_Reader_need (L := L) ) (fun M122 k123 => ?_)
        exact ⟨_, rfl, (Kq.trans (Kq.trans Kq.rf (Kq.mono k121 P3_PD)) (Kq.mono k123 P3_PD))⟩
    · unfold J_Reader_takeIngredient_40
      refine Ok.ite (fun h124 => ?_) (fun h124 => ?_)
      · refine Ok.c1 (tf_Land_inDish hLd1) (fun r125 _ => ?_)
        refine Ok.c1 (tf_Main_put (by decide)) (fun M126 k127 => ?_)
        unfold J_Reader_takeIngredient_78
        refine Ok.c1 (tq_Reader_need (L := L) ) (fun M128 k129 => ?_)
        exact ⟨_, rfl, (Kq.trans (Kq.trans Kq.rf (Kq.one k127 (fun _ => PD_o ⟨by omega, by omega⟩) (by have := La_12 hLd1; omega))) (Kq.mono k129 P3_PD))⟩
      · refine Ok.c1 (tq_Reader_stopLate (L := L) ) (fun M130 k131 => ?_)
        unfold J_Reader_takeIngredient_78
        refine Ok.c1 (tq_Reader_need (L := L) ) (fun M132 k133 => ?_)
        exact ⟨_, rfl, (Kq.trans (Kq.trans Kq.rf (Kq.mono k131 P3_PD)) (Kq.mono k133 P3_PD))⟩
set_option maxHeartbeats 4000000 in
set_option maxRecDepth 20000 in
theorem tq_Reader_takeInt {p1 : Int32} {M : gM} {L : gL} : ∃ r M', F_Reader_takeInt p1 M L = some (r, M') ∧ True ∧ Kq P3 M L M' L := by
  refine Ok.x2 (A := fun r M' => True ∧ Kq P3 M L M' L) ?_
  unfold F_Reader_takeInt
  refine Ok.c1 (tq_Tokens_valueAt ) (fun r134 _ => ?_)
  refine Ok.nmI (fun x135 ex135 => ?_)
  refine Ok.c1 (tq_Reader_is ) (fun r136 hbr136 => ?_)
  refine Ok.ite (fun h137 => ?_) (fun h137 => ?_)
  · unfold J_Reader_takeInt_31
    refine Ok.c1 (tq_Reader_need (L := L) ) (fun M138 k139 => ?_)
    exact ⟨_, rfl, trivial, (Kq.trans Kq.rf k139)⟩
  · refine Ok.ite (fun h140 => ?_) (fun h140 => ?_)
    · unfold J_Reader_takeInt_31
      refine Ok.c1 (tq_Reader_need (L := L) ) (fun M141 k142 => ?_)
      exact ⟨_, rfl, trivial, (Kq.trans Kq.rf k142)⟩
    · refine Ok.c1 (tq_Reader_stopLate (L := L) ) (fun M143 k144 => ?_)
      unfold J_Reader_takeInt_31
      refine Ok.c1 (tq_Reader_need (L := L) ) (fun M145 k146 => ?_)
      exact ⟨_, rfl, trivial, (Kq.trans (Kq.trans Kq.rf k144) k146)⟩
set_option maxHeartbeats 4000000 in
set_option maxRecDepth 20000 in
theorem tq_Reader_takeNewName {p1 : Int32} {M : gM} {L : gL} : ∃ M' L', F_Reader_takeNewName p1 M L = some (M', L') ∧ Kq P3 M L M' L' := by
  refine Ok.x2 (A := fun M' L' => Kq P3 M L M' L') ?_
  unfold F_Reader_takeNewName
  refine Ok.c1 (tq_Reader_is ) (fun r147 hbr147 => ?_)
  refine Ok.ite (fun h148 => ?_) (fun h148 => ?_)
  · unfold J_Reader_takeNewName_97
    refine Ok.c1 (tq_Reader_need (L := L) ) (fun M149 k150 => ?_)
    exact ⟨_, rfl, (Kq.trans Kq.rf k150)⟩
  · refine Ok.c1 (tq_Tokens_valueAt ) (fun r151 _ => ?_)
    refine Ok.c1 (tq_Reader_indexOf ) (fun r152 _ => ?_)
    refine Ok.ite (fun h153 => ?_) (fun h153 => ?_)
    · refine Ok.ite (fun h154 => ?_) (fun h154 => ?_)
      · unfold J_Reader_takeNewName_97
        refine Ok.c1 (tq_Reader_need (L := L) ) (fun M155 k156 => ?_)
        exact ⟨_, rfl, (Kq.trans Kq.rf k156)⟩
      · refine Ok.ite (fun h157 => ?_) (fun h157 => ?_)
        · unfold J_Reader_takeNewName_97
          refine Ok.c1 (tq_Reader_need (L := L) ) (fun M158 k159 => ?_)
          exact ⟨_, rfl, (Kq.trans Kq.rf k159)⟩
        · refine Ok.ite (fun h160 => ?_) (fun h160 => ?_)
          · unfold J_Reader_takeNewName_97
            refine Ok.c1 (tq_Reader_need (L := L) ) (fun M161 k162 => ?_)
            exact ⟨_, rfl, (Kq.trans Kq.rf k162)⟩
          · refine Ok.gd (vin_of h154 h160 (by decide)) ?_
            refine Ok.nmL (fun L163 eL163 => ?_)
            refine Ok.gd (vin_of h154 h160 (by decide)) ?_
            refine Ok.nmM (fun M164 eM164 => ?_)
            refine Ok.nmM (fun M165 eM165 => ?_)
            unfold J_Reader_takeNewName_97
            refine Ok.c1 (tq_Reader_need (L := L163) ) (fun M166 k167 => ?_)
            exact ⟨_, rfl, (Kq.trans (Kq.wM (Kq.wM (Kq.wL Kq.rf eL163) (rfl) (fun q => absurd q.1 (by decide)) eM164) (rfl) (by decide) eM165) k167)⟩
    · refine Ok.c1 (tq_Reader_stopLate (L := L) ) (fun M168 k169 => ?_)
      unfold J_Reader_takeNewName_97
      refine Ok.c1 (tq_Reader_need (L := L) ) (fun M170 k171 => ?_)
      exact ⟨_, rfl, (Kq.trans (Kq.trans Kq.rf k169) k171)⟩
set_option maxHeartbeats 4000000 in
set_option maxRecDepth 20000 in
theorem tq_Reader_takeSum {Wl1 : Nat} {M : gM} {L : gL} (hWl1 : isLw Wl1) : ∃ M', F_Reader_takeSum Wl1 M L = some M' ∧ Kq (PW Wl1) M L M' L := by
  show Ok _ _
  unfold F_Reader_takeSum
  refine Ok.nmM (fun M172 eM172 => ?_)
  refine Ok.nmM (fun M173 eM173 => ?_)
  have LP177 : ∀ (f174 : Nat) (v178 : Int32) (v179 : Int32) (M180 : gM), Kq (PW Wl1) M L M180 L → ¬ v179 < 0 → ((400 : Int32).toInt + 1 - v179.toInt).toNat < f174 → Ok (H_Reader_takeSum_14 Wl1 L f174 v178 v179 M180) (fun q => Kq (PW Wl1) M L q L) := by
    intro f174
    induction f174 with
    | zero => intro v178 v179 M180 _ _ hm176; exact absurd hm176 (Nat.not_lt_zero _)
    | succ f174 ih175 =>
      intro v178 v179 M180 k181 n182 hm176
      show Ok (B_Reader_takeSum_14 Wl1 L (H_Reader_takeSum_14 Wl1 L f174) v178 v179 M180) _
      unfold B_Reader_takeSum_14
      refine Ok.ite (fun h183 => ?_) (fun h183 => ?_)
      · unfold J_Reader_takeSum_89
        refine Ok.c1 (tq_Reader_layHeld (L := L) hWl1) (fun M184 k185 => ?_)
        exact ⟨_, rfl, (Kq.trans k181 k185)⟩
      · refine Ok.ite (fun h186 => ?_) (fun h186 => ?_)
        · refine Ok.ite (fun h187 => ?_) (fun h187 => ?_)
          · refine Ok.c1 (tf_Main_at (by decide)) (fun r188 _ => ?_)
            refine Ok.c1 (tq_Reader_rank ) (fun r189 _ => ?_)
            refine Ok.ite (fun h190 => ?_) (fun h190 => ?_)
            · refine Ok.ite (fun h191 => ?_) (fun h191 => ?_)
              · unfold J_Reader_takeSum_89
                refine Ok.c1 (tq_Reader_layHeld (L := L) hWl1) (fun M192 k193 => ?_)
                exact ⟨_, rfl, (Kq.trans k181 k193)⟩
              · refine Ok.c1 (tq_Reader_takeClose (L := L) hWl1) (fun M194 k195 => ?_)
                unfold J_Reader_takeSum_83
                refine Ok.nmI (fun x196 ex196 => ?_)
                exact ih175 v178 x196 M194 (Kq.trans k181 k195) (nn_upe (y := (400 : Int32)) h183 (by decide) ex196 n182) (md_upe h183 (by decide) ex196 hm176)
            · refine Ok.c1 (tq_Reader_takeSign (L := L) hWl1) (fun M197 k198 => ?_)
              unfold J_Reader_takeSum_83
              refine Ok.nmI (fun x199 ex199 => ?_)
              exact ih175 1 x199 M197 (Kq.trans k181 k198) (nn_upe (y := (400 : Int32)) h183 (by decide) ex199 n182) (md_upe h183 (by decide) ex199 hm176)
          · refine Ok.c2 (tq_Reader_takeUnit hWl1) (fun r200 M201 ⟨hbr200, k202⟩ => ?_)
            unfold J_Reader_takeSum_83
            refine Ok.nmI (fun x203 ex203 => ?_)
            exact ih175 r200 x203 M201 (Kq.trans k181 k202) (nn_upe (y := (400 : Int32)) h183 (by decide) ex203 n182) (md_upe h183 (by decide) ex203 hm176)
        · unfold J_Reader_takeSum_89
          refine Ok.c1 (tq_Reader_layHeld (L := L) hWl1) (fun M204 k205 => ?_)
          exact ⟨_, rfl, (Kq.trans k181 k205)⟩
  exact LP177 _ 1 0 M173 (Kq.wM (Kq.wM Kq.rf ((P3_PW _ _ rfl)) (by decide) eM172) ((P3_PW _ _ rfl)) (by decide) eM173) (by decide) fu_upe
set_option maxHeartbeats 4000000 in
set_option maxRecDepth 20000 in
theorem tq_Reader_takeDeed {Ld1 : Nat} {M : gM} {L : gL} (hLd1 : isLa Ld1) : ∃ M' L', F_Reader_takeDeed Ld1 M L = some (M', L') ∧ Kq (PD Ld1) M L M' L' := by
  refine Ok.x2 (A := fun M' L' => Kq (PD Ld1) M L M' L') ?_
  unfold F_Reader_takeDeed
  refine Ok.nmI (fun x206 ex206 => ?_)
  refine Ok.ite (fun h207 => ?_) (fun h207 => ?_)
  · refine Ok.c1 (tq_Reader_take (L := L) ) (fun M208 k209 => ?_)
    refine Ok.c2 (tq_Reader_takeNewName ) (fun M210 L212 k211 => ?_)
    refine Ok.c2 (tq_Reader_takeInt ) (fun r213 M214 ⟨_, k215⟩ => ?_)
    refine Ok.c1 (tf_Main_put (by decide)) (fun M216 k217 => ?_)
    refine Ok.c2 (tq_Reader_takeInt ) (fun r218 M219 ⟨_, k220⟩ => ?_)
    refine Ok.c1 (tf_Main_put (by decide)) (fun M221 k222 => ?_)
    refine Ok.c1 (tq_Reader_need (L := L212) ) (fun M223 k224 => ?_)
    refine Ok.nmM (fun M225 eM225 => ?_)
    exact ⟨_, rfl, (Kq.wM (Kq.trans (Kq.trans (Kq.trans (Kq.trans (Kq.trans (Kq.trans (Kq.trans Kq.rf (Kq.mono k209 P3_PD)) (Kq.mono k211 P3_PD)) (Kq.mono k215 P3_PD)) (Kq.one k217 (fun _ => PD_o ⟨by omega, by omega⟩) (by have := La_12 hLd1; omega))) (Kq.mono k220 P3_PD)) (Kq.one k222 (fun _ => PD_o ⟨by omega, by omega⟩) (by have := La_12 hLd1; omega))) (Kq.mono k224 P3_PD)) (PD_o ⟨by omega, by omega⟩) (fun q => absurd q.1 (by have := La_12 hLd1; omega)) eM225)⟩
  · refine Ok.c1 (tq_Reader_stop (L := L) ) (fun M226 k227 => ?_)
    exact ⟨_, rfl, (Kq.trans Kq.rf (Kq.mono k227 P3_PD))⟩
set_option maxHeartbeats 4000000 in
set_option maxRecDepth 20000 in
theorem tq_Reader_takeDish {Ld1 : Nat} {M : gM} {L : gL} (hLd1 : isLa Ld1) : ∃ M' L', F_Reader_takeDish Ld1 M L = some (M', L') ∧ Kq (PD Ld1) M L M' L' := by
  refine Ok.x2 (A := fun M' L' => Kq (PD Ld1) M L M' L') ?_
  unfold F_Reader_takeDish
  refine Ok.nmI (fun x228 ex228 => ?_)
  refine Ok.ite (fun h229 => ?_) (fun h229 => ?_)
  · refine Ok.c1 (tq_Reader_take (L := L) ) (fun M230 k231 => ?_)
    refine Ok.c2 (tq_Reader_takeNewName ) (fun M232 L234 k233 => ?_)
    refine Ok.c2 (tq_Reader_takeInt ) (fun r235 M236 ⟨_, k237⟩ => ?_)
    refine Ok.c1 (tf_Main_put (by decide)) (fun M238 k239 => ?_)
    refine Ok.c1 (tq_Reader_takeIngredient hLd1) (fun M240 k241 => ?_)
    have LP245 : ∀ (f242 : Nat) (v246 : Int32) (M247 : gM), Kq (PD Ld1) M L M247 L234 → ¬ v246 < 0 → ((6 : Int32).toInt + 1 - v246.toInt).toNat < f242 → Ok (H_Reader_takeDish_47 Ld1 x228 L234 f242 v246 M247) (fun q => Kq (PD Ld1) M L q.1 q.2) := by
      intro f242
      induction f242 with
      | zero => intro v246 M247 _ _ hm244; exact absurd hm244 (Nat.not_lt_zero _)
      | succ f242 ih243 =>
        intro v246 M247 k248 n249 hm244
        show Ok (B_Reader_takeDish_47 Ld1 x228 L234 (H_Reader_takeDish_47 Ld1 x228 L234 f242) v246 M247) _
        unfold B_Reader_takeDish_47
        refine Ok.ite (fun h250 => ?_) (fun h250 => ?_)
        · unfold J_Reader_takeDish_94
          refine Ok.c1 (tq_Reader_need (L := L234) ) (fun M251 k252 => ?_)
          refine Ok.nmM (fun M253 eM253 => ?_)
          exact ⟨_, rfl, (Kq.wM (Kq.trans k248 (Kq.mono k252 P3_PD)) (PD_o ⟨by omega, by omega⟩) (fun q => absurd q.1 (by have := La_12 hLd1; omega)) eM253)⟩
        · refine Ok.ite (fun h254 => ?_) (fun h254 => ?_)
          · refine Ok.c1 (tq_Reader_is ) (fun r255 hbr255 => ?_)
            refine Ok.ite (fun h256 => ?_) (fun h256 => ?_)
            · unfold J_Reader_takeDish_94
              refine Ok.c1 (tq_Reader_need (L := L234) ) (fun M257 k258 => ?_)
              refine Ok.nmM (fun M259 eM259 => ?_)
              exact ⟨_, rfl, (Kq.wM (Kq.trans k248 (Kq.mono k258 P3_PD)) (PD_o ⟨by omega, by omega⟩) (fun q => absurd q.1 (by have := La_12 hLd1; omega)) eM259)⟩
            · refine Ok.ite (fun h260 => ?_) (fun h260 => ?_)
              · refine Ok.c1 (tq_Reader_stop (L := L234) ) (fun M261 k262 => ?_)
                unfold J_Reader_takeDish_88
                refine Ok.nmI (fun x263 ex263 => ?_)
                exact ih243 x263 M261 (Kq.trans k248 (Kq.mono k262 P3_PD)) (nn_upe (y := (6 : Int32)) h250 (by decide) ex263 n249) (md_upe h250 (by decide) ex263 hm244)
              · refine Ok.c1 (tq_Reader_takeIngredient hLd1) (fun M264 k265 => ?_)
                unfold J_Reader_takeDish_88
                refine Ok.nmI (fun x266 ex266 => ?_)
                exact ih243 x266 M264 (Kq.trans k248 k265) (nn_upe (y := (6 : Int32)) h250 (by decide) ex266 n249) (md_upe h250 (by decide) ex266 hm244)
          · unfold J_Reader_takeDish_94
            refine Ok.c1 (tq_Reader_need (L := L234) ) (fun M267 k268 => ?_)
            refine Ok.nmM (fun M269 eM269 => ?_)
            exact ⟨_, rfl, (Kq.wM (Kq.trans k248 (Kq.mono k268 P3_PD)) (PD_o ⟨by omega, by omega⟩) (fun q => absurd q.1 (by have := La_12 hLd1; omega)) eM269)⟩
    exact LP245 _ 1 M240 (Kq.trans (Kq.trans (Kq.trans (Kq.trans (Kq.trans Kq.rf (Kq.mono k231 P3_PD)) (Kq.mono k233 P3_PD)) (Kq.mono k237 P3_PD)) (Kq.one k239 (fun _ => PD_o ⟨by omega, by omega⟩) (by have := La_12 hLd1; omega))) k241) (by decide) fu_upe
  · refine Ok.c1 (tq_Reader_stop (L := L) ) (fun M270 k271 => ?_)
    exact ⟨_, rfl, (Kq.trans Kq.rf (Kq.mono k271 P3_PD))⟩
set_option maxHeartbeats 4000000 in
set_option maxRecDepth 20000 in
theorem tq_Reader_takeFood {Ld1 : Nat} {M : gM} {L : gL} (hLd1 : isLa Ld1) : ∃ M' L', F_Reader_takeFood Ld1 M L = some (M', L') ∧ Kq (PD Ld1) M L M' L' := by
  refine Ok.x2 (A := fun M' L' => Kq (PD Ld1) M L M' L') ?_
  unfold F_Reader_takeFood
  refine Ok.nmI (fun x272 ex272 => ?_)
  refine Ok.ite (fun h273 => ?_) (fun h273 => ?_)
  · refine Ok.c1 (tq_Reader_take (L := L) ) (fun M274 k275 => ?_)
    refine Ok.c2 (tq_Reader_takeNewName ) (fun M276 L278 k277 => ?_)
    refine Ok.c2 (tq_Reader_takeInt ) (fun r279 M280 ⟨_, k281⟩ => ?_)
    refine Ok.c1 (tf_Main_put (by decide)) (fun M282 k283 => ?_)
    refine Ok.c2 (tq_Reader_takeInt ) (fun r284 M285 ⟨_, k286⟩ => ?_)
    refine Ok.c1 (tf_Main_put (by decide)) (fun M287 k288 => ?_)
    have LP292 : ∀ (f289 : Nat) (v293 : Int32) (M294 : gM), Kq (PD Ld1) M L M294 L278 → ¬ v293 < 0 → ((3 : Int32).toInt - v293.toInt).toNat < f289 → Ok (H_Reader_takeFood_56 Ld1 x272 L278 f289 v293 M294) (fun q => Kq (PD Ld1) M L q.1 q.2) := by
      intro f289
      induction f289 with
      | zero => intro v293 M294 _ _ hm291; exact absurd hm291 (Nat.not_lt_zero _)
      | succ f289 ih290 =>
        intro v293 M294 k295 n296 hm291
        show Ok (B_Reader_takeFood_56 Ld1 x272 L278 (H_Reader_takeFood_56 Ld1 x272 L278 f289) v293 M294) _
        unfold B_Reader_takeFood_56
        refine Ok.ite (fun h297 => ?_) (fun h297 => ?_)
        · unfold J_Reader_takeFood_85
          refine Ok.c1 (tq_Reader_need (L := L278) ) (fun M298 k299 => ?_)
          refine Ok.nmM (fun M300 eM300 => ?_)
          exact ⟨_, rfl, (Kq.wM (Kq.trans k295 (Kq.mono k299 P3_PD)) (PD_o ⟨by omega, by omega⟩) (fun q => absurd q.1 (by have := La_12 hLd1; omega)) eM300)⟩
        · refine Ok.c2 (tq_Reader_takeInt ) (fun r301 M302 ⟨_, k303⟩ => ?_)
          refine Ok.c1 (tf_Main_put (by decide)) (fun M304 k305 => ?_)
          refine Ok.nmI (fun x306 ex306 => ?_)
          exact ih290 x306 M304 (Kq.trans (Kq.trans k295 (Kq.mono k303 P3_PD)) (Kq.one k305 (fun _ => PD_o ⟨by omega, by omega⟩) (by have := La_12 hLd1; omega))) (nn_up (y := (3 : Int32)) h297 ex306 n296) (md_up h297 ex306 hm291)
    exact LP292 _ 0 M287 (Kq.trans (Kq.trans (Kq.trans (Kq.trans (Kq.trans (Kq.trans Kq.rf (Kq.mono k275 P3_PD)) (Kq.mono k277 P3_PD)) (Kq.mono k281 P3_PD)) (Kq.one k283 (fun _ => PD_o ⟨by omega, by omega⟩) (by have := La_12 hLd1; omega))) (Kq.mono k286 P3_PD)) (Kq.one k288 (fun _ => PD_o ⟨by omega, by omega⟩) (by have := La_12 hLd1; omega))) (by decide) fu_up
  · refine Ok.c1 (tq_Reader_stop (L := L) ) (fun M307 k308 => ?_)
    exact ⟨_, rfl, (Kq.trans Kq.rf (Kq.mono k308 P3_PD))⟩
set_option maxHeartbeats 4000000 in
set_option maxRecDepth 20000 in
theorem tq_Reader_takeGuest {Ld1 : Nat} {M : gM} {L : gL} (hLd1 : isLa Ld1) : ∃ M' L', F_Reader_takeGuest Ld1 M L = some (M', L') ∧ Kq (PD Ld1) M L M' L' := by
  refine Ok.x2 (A := fun M' L' => Kq (PD Ld1) M L M' L') ?_
  unfold F_Reader_takeGuest
  refine Ok.nmI (fun x309 ex309 => ?_)
  refine Ok.ite (fun h310 => ?_) (fun h310 => ?_)
  · refine Ok.c1 (tq_Reader_take (L := L) ) (fun M311 k312 => ?_)
    refine Ok.c2 (tq_Reader_takeNewName ) (fun M313 L315 k314 => ?_)
    refine Ok.c2 (tq_Reader_takeInt ) (fun r316 M317 ⟨_, k318⟩ => ?_)
    refine Ok.c1 (tf_Main_put (by decide)) (fun M319 k320 => ?_)
    refine Ok.c1 (tq_Reader_need (L := L315) ) (fun M321 k322 => ?_)
    refine Ok.nmM (fun M323 eM323 => ?_)
    exact ⟨_, rfl, (Kq.wM (Kq.trans (Kq.trans (Kq.trans (Kq.trans (Kq.trans Kq.rf (Kq.mono k312 P3_PD)) (Kq.mono k314 P3_PD)) (Kq.mono k318 P3_PD)) (Kq.one k320 (fun _ => PD_o ⟨by omega, by omega⟩) (by have := La_12 hLd1; omega))) (Kq.mono k322 P3_PD)) (PD_o ⟨by omega, by omega⟩) (fun q => absurd q.1 (by have := La_12 hLd1; omega)) eM323)⟩
  · refine Ok.c1 (tq_Reader_stop (L := L) ) (fun M324 k325 => ?_)
    exact ⟨_, rfl, (Kq.trans Kq.rf (Kq.mono k325 P3_PD))⟩
set_option maxHeartbeats 4000000 in
set_option maxRecDepth 20000 in
theorem tq_Reader_takeLaw {Wl1 : Nat} {M : gM} {L : gL} (hWl1 : isLw Wl1) : ∃ M', F_Reader_takeLaw Wl1 M L = some M' ∧ Kq (PW Wl1) M L M' L := by
  show Ok _ _
  unfold F_Reader_takeLaw
  refine Ok.c1 (tq_Law_clear (L := L) hWl1) (fun M326 k327 => ?_)
  refine Ok.c1 (tq_Reader_take (L := L) ) (fun M328 k329 => ?_)
  refine Ok.c1 (tq_Reader_need (L := L) ) (fun M330 k331 => ?_)
  have LP335 : ∀ (f332 : Nat) (v336 : Int32) (M337 : gM), Kq (PW Wl1) M L M337 L → ¬ v336 < 0 → ((4 : Int32).toInt + 1 - v336.toInt).toNat < f332 → Ok (H_Reader_takeLaw_16 Wl1 L f332 v336 M337) (fun q => Kq (PW Wl1) M L q L) := by
    intro f332
    induction f332 with
    | zero => intro v336 M337 _ _ hm334; exact absurd hm334 (Nat.not_lt_zero _)
    | succ f332 ih333 =>
      intro v336 M337 k338 n339 hm334
      show Ok (B_Reader_takeLaw_16 Wl1 L (H_Reader_takeLaw_16 Wl1 L f332) v336 M337) _
      unfold B_Reader_takeLaw_16
      refine Ok.ite (fun h340 => ?_) (fun h340 => ?_)
      · unfold J_Reader_takeLaw_106
        refine Ok.c1 (tq_Reader_takeSum hWl1) (fun M341 k342 => ?_)
        refine Ok.c1 (tq_Reader_need (L := L) ) (fun M343 k344 => ?_)
        exact ⟨_, rfl, (Kq.trans (Kq.trans k338 k342) (Kq.mono k344 P3_PW))⟩
      · refine Ok.ite (fun h345 => ?_) (fun h345 => ?_)
        · refine Ok.c1 (tq_Reader_is ) (fun r346 hbr346 => ?_)
          refine Ok.ite (fun h347 => ?_) (fun h347 => ?_)
          · unfold J_Reader_takeLaw_106
            refine Ok.c1 (tq_Reader_takeSum hWl1) (fun M348 k349 => ?_)
            refine Ok.c1 (tq_Reader_need (L := L) ) (fun M350 k351 => ?_)
            exact ⟨_, rfl, (Kq.trans (Kq.trans k338 k349) (Kq.mono k351 P3_PW))⟩
          · refine Ok.ite (fun h352 => ?_) (fun h352 => ?_)
            · unfold J_Reader_takeLaw_43
              refine Ok.c1 (tq_Reader_stop (L := L) ) (fun M353 k354 => ?_)
              unfold J_Reader_takeLaw_106
              refine Ok.c1 (tq_Reader_takeSum hWl1) (fun M355 k356 => ?_)
              refine Ok.c1 (tq_Reader_need (L := L) ) (fun M357 k358 => ?_)
              exact ⟨_, rfl, (Kq.trans (Kq.trans (Kq.trans k338 (Kq.mono k354 P3_PW)) k356) (Kq.mono k358 P3_PW))⟩
            · refine Ok.c1 (tq_Reader_take (L := L) ) (fun M359 k360 => ?_)
              refine Ok.c1 (tq_Reader_takeSum hWl1) (fun M361 k362 => ?_)
              refine Ok.c1 (tq_Reader_need (L := L) ) (fun M363 k364 => ?_)
              refine Ok.c1 (tq_Reader_takeSum hWl1) (fun M365 k366 => ?_)
              refine Ok.c1 (tq_Reader_need (L := L) ) (fun M367 k368 => ?_)
              refine Ok.c2 (tq_Law_openIf (L := L) hWl1) (fun r369 M370 ⟨_, k371⟩ => ?_)
              refine Ok.c1 (tq_Reader_takeSum hWl1) (fun M372 k373 => ?_)
              refine Ok.c1 (tq_Reader_need (L := L) ) (fun M374 k375 => ?_)
              refine Ok.c1 (tq_Law_closeIf (L := L) hWl1) (fun M376 k377 => ?_)
              refine Ok.nmI (fun x378 ex378 => ?_)
              exact ih333 x378 M376 (Kq.trans (Kq.trans (Kq.trans (Kq.trans (Kq.trans (Kq.trans (Kq.trans (Kq.trans (Kq.trans k338 (Kq.mono k360 P3_PW)) k362) (Kq.mono k364 P3_PW)) k366) (Kq.mono k368 P3_PW)) k371) k373) (Kq.mono k375 P3_PW)) k377) (nn_upe (y := (4 : Int32)) h340 (by decide) ex378 n339) (md_upe h340 (by decide) ex378 hm334)
        · unfold J_Reader_takeLaw_106
          refine Ok.c1 (tq_Reader_takeSum hWl1) (fun M379 k380 => ?_)
          refine Ok.c1 (tq_Reader_need (L := L) ) (fun M381 k382 => ?_)
          exact ⟨_, rfl, (Kq.trans (Kq.trans k338 k380) (Kq.mono k382 P3_PW))⟩
  exact LP335 _ 0 M330 (Kq.trans (Kq.trans (Kq.trans Kq.rf k327) (Kq.mono k329 P3_PW)) (Kq.mono k331 P3_PW)) (by decide) fu_upe
set_option maxHeartbeats 4000000 in
set_option maxRecDepth 20000 in
theorem tq_Reader_takeSeed {Ld1 : Nat} {M : gM} {L : gL} (hLd1 : isLa Ld1) : ∃ M', F_Reader_takeSeed Ld1 M L = some M' ∧ Kq (PD Ld1) M L M' L := by
  show Ok _ _
  unfold F_Reader_takeSeed
  refine Ok.c1 (tq_Reader_take (L := L) ) (fun M383 k384 => ?_)
  refine Ok.c2 (tq_Reader_takeInt ) (fun r385 M386 ⟨_, k387⟩ => ?_)
  refine Ok.nmM (fun M388 eM388 => ?_)
  refine Ok.c1 (tq_Reader_need (L := L) ) (fun M389 k390 => ?_)
  exact ⟨_, rfl, (Kq.trans (Kq.wM (Kq.trans (Kq.trans Kq.rf (Kq.mono k384 P3_PD)) (Kq.mono k387 P3_PD)) (PD_o ⟨by omega, by omega⟩) (fun q => absurd q.1 (by have := La_12 hLd1; omega)) eM388) (Kq.mono k390 P3_PD))⟩
