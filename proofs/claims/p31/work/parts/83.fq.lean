def P3 (c _ : Nat) : Bool := decide (3 ≤ c) && decide (c < 12)
def PW (x c j : Nat) : Bool := P3 c j || (decide (x ≤ c) && decide (c < x + 4))
def PD (x c j : Nat) : Bool := P3 c j || (decide (x ≤ c) && decide (c < x + 26))
theorem P3_PW {x : Nat} : ∀ c j, P3 c j = true → PW x c j = true := fun c j h => by unfold PW; rw [h]; rfl
theorem P3_PD {x : Nat} : ∀ c j, P3 c j = true → PD x c j = true := fun c j h => by unfold PD; rw [h]; rfl
theorem PW_PD {x k : Nat} (hk : k + 4 ≤ 26) : ∀ c j, PW (x + k) c j = true → PD x c j = true := fun c j h => by
  unfold PW P3 at h
  unfold PD P3
  simp only [Bool.or_eq_true, Bool.and_eq_true, decide_eq_true_eq] at h ⊢
  omega
theorem PW_o {x c j : Nat} (h : x ≤ c ∧ c < x + 4) : PW x c j = true := by simp [PW, h.1, h.2]
theorem PD_o {x c j : Nat} (h : x ≤ c ∧ c < x + 26) : PD x c j = true := by simp [PD, h.1, h.2]
/-- what a part of the reader does: it writes in S alone, of the longs in the values and the names alone; a fault that stands stays -/
def Kq (S : Nat → Nat → Bool) (M : gM) (L : gL) (M' : gM) (L' : gL) : Prop := (∀ c j, S c j = false → M' c j = M c j) ∧ (∀ c j, c ≠ 8 → c ≠ 9 → L' c j = L c j) ∧ (M 3 2 ≠ 0 → M' 3 2 = M 3 2 ∧ M' 3 3 = M 3 3)
section KQ
variable {S : Nat → Nat → Bool} {M M1 M2 : gM} {L L1 L2 : gL}
theorem Kq.rf : Kq S M L M L := ⟨fun _ _ _ => rfl, fun _ _ _ _ => rfl, fun _ => ⟨rfl, rfl⟩⟩
theorem Kq.trans (h : Kq S M L M1 L1) (g : Kq S M1 L1 M2 L2) : Kq S M L M2 L2 := ⟨fun c j q => (g.1 c j q).trans (h.1 c j q), fun c j q r => (g.2.1 c j q r).trans (h.2.1 c j q r), fun q => by
  have h3 := h.2.2 q
  have g3 := g.2.2 (by rw [h3.1]; exact q)
  exact ⟨g3.1.trans h3.1, g3.2.trans h3.2⟩⟩
theorem Kq.mono {S' : Nat → Nat → Bool} (h : Kq S M L M1 L1) (f : ∀ c j, S c j = true → S' c j = true) : Kq S' M L M1 L1 := ⟨fun c j q => h.1 c j (by
  cases e : S c j with
  | false => rfl
  | true => rw [f c j e] at q; cases q), h.2.1, h.2.2⟩
theorem Kq.wM {a i : Nat} {x : Int32} (h : Kq S M L M1 L1) (ha : S a i = true) (hn : ¬ (a = 3 ∧ (i = 2 ∨ i = 3))) (e : M2 = uM M1 a i x) : Kq S M L M2 L1 := by
  subst e
  refine h.trans ⟨fun c j q => uM_diff (fun w => by rw [w.1, w.2, ha] at q; cases q), fun _ _ _ _ => rfl, fun _ => ⟨uM_diff (by omega), uM_diff (by omega)⟩⟩
theorem Kq.wL {i : Nat} {x : Int64} (h : Kq S M L M1 L1) (e : L2 = uL L1 9 i x) : Kq S M L M1 L2 := by
  subst e
  exact ⟨h.1, fun c j q r => by rw [uL_ne _ _ _ r]; exact h.2.1 c j q r, h.2.2⟩
theorem Kq.one {a : Nat} (h : Kl (oneL a) M zL M1 zL) (ha : ∀ j, S a j = true) (hn : a ≠ 3) : Kq S M L M1 L := ⟨fun c j q => Kl.m h (by
  unfold oneL
  rw [beq_eq_false_iff_ne]
  intro w
  rw [w, ha] at q; cases q), fun _ _ _ _ => rfl, fun _ => ⟨Kl.m h (by unfold oneL; rw [beq_eq_false_iff_ne]; omega), Kl.m h (by unfold oneL; rw [beq_eq_false_iff_ne]; omega)⟩⟩
end KQ
theorem La_12 {x : Nat} (h : isLa x) : 12 ≤ x := (by decide +kernel : ∀ x ∈ lLa, 12 ≤ x) x h
theorem Lw_12 {x : Nat} (h : isLw x) : 12 ≤ x := (by decide +kernel : ∀ x ∈ lLw, 12 ≤ x) x h
theorem tq_Reader_stop {p1 : Int32} {M : gM} {L : gL} : ∃ M', F_Reader_stop p1 M = some M' ∧ Kq P3 M L M' L := by
  unfold F_Reader_stop
  by_cases h : M 3 2 = 0
  · rw [if_pos h]
    refine ⟨_, rfl, fun c j q => ?_, fun _ _ _ _ => rfl, fun q => absurd h q⟩
    have hc : c ≠ 3 := fun w => by rw [w] at q; exact absurd q (by decide)
    rw [uM_diff (fun w => hc w.1), uM_diff (fun w => hc w.1)]
  · rw [if_neg h]
    exact ⟨_, rfl, Kq.rf⟩
set_option maxHeartbeats 4000000 in
set_option maxRecDepth 20000 in
theorem tq_Law_add {Wl0 : Nat} {p1 : Int32} {M : gM} {L : gL} (hWl0 : isLw Wl0) : ∃ M', F_Law_add Wl0 p1 M = some M' ∧ Kq (PW Wl0) M L M' L := by
  show Ok _ _
  unfold F_Law_add
  refine Ok.ite (fun h1 => ?_) (fun h1 => ?_)
  · exact ⟨_, rfl, Kq.rf⟩
  · refine Ok.ite (fun h2 => ?_) (fun h2 => ?_)
    · exact ⟨_, rfl, Kq.rf⟩
    · refine Ok.gd (vin_of h1 h2 (by decide)) ?_
      refine Ok.nmM (fun M3 eM3 => ?_)
      refine Ok.nmM (fun M4 eM4 => ?_)
      exact ⟨_, rfl, (Kq.wM (Kq.wM Kq.rf (PW_o ⟨by omega, by omega⟩) (fun q => absurd q.1 (by have := Lw_12 hWl0; omega)) eM3) (PW_o ⟨by omega, by omega⟩) (fun q => absurd q.1 (by have := Lw_12 hWl0; omega)) eM4)⟩
set_option maxHeartbeats 4000000 in
set_option maxRecDepth 20000 in
theorem tq_Law_clear {Wl0 : Nat} {M : gM} {L : gL} (hWl0 : isLw Wl0) : ∃ M', F_Law_clear Wl0 M = some M' ∧ Kq (PW Wl0) M L M' L := by
  show Ok _ _
  unfold F_Law_clear
  refine Ok.nmM (fun M5 eM5 => ?_)
  exact ⟨_, rfl, (Kq.wM Kq.rf (PW_o ⟨by omega, by omega⟩) (fun q => absurd q.1 (by have := Lw_12 hWl0; omega)) eM5)⟩
set_option maxHeartbeats 4000000 in
set_option maxRecDepth 20000 in
theorem tq_Reader_indexOf {p1 : Int64} {M : gM} {L : gL} : ∃ r, F_Reader_indexOf p1 M L = some r ∧ True := by
  show Ok _ _
  unfold F_Reader_indexOf
  have LP9 : ∀ (f6 : Nat) (v10 : Int32), ¬ v10 < 0 → ((M 3 8).toInt - v10.toInt).toNat < f6 → Ok (H_Reader_indexOf_2 p1 M L f6 v10) (fun r => True) := by
    intro f6
    induction f6 with
    | zero => intro v10 _ hm8; exact absurd hm8 (Nat.not_lt_zero _)
    | succ f6 ih7 =>
      intro v10 n11 hm8
      show Ok (B_Reader_indexOf_2 p1 M L (H_Reader_indexOf_2 p1 M L f6) v10) _
      unfold B_Reader_indexOf_2
      refine Ok.ite (fun h12 => ?_) (fun h12 => ?_)
      · exact ⟨_, rfl, trivial⟩
      · refine Ok.ite (fun h13 => ?_) (fun h13 => ?_)
        · exact ⟨_, rfl, trivial⟩
        · refine Ok.gd (vin_of n11 h13 (by decide)) ?_
          refine Ok.ite (fun h14 => ?_) (fun h14 => ?_)
          · exact ⟨_, rfl, trivial⟩
          · refine Ok.nmI (fun x15 ex15 => ?_)
            exact ih7 x15 (nn_up (y := (M 3 8)) h12 ex15 n11) (md_up h12 ex15 hm8)
  exact LP9 _ 0 (by decide) fu_up
set_option maxHeartbeats 4000000 in
set_option maxRecDepth 20000 in
theorem tq_Reader_rank {p1 : Int32}  : ∃ r, F_Reader_rank p1 = some r ∧ True := by
  show Ok _ _
  unfold F_Reader_rank
  refine Ok.ite (fun h16 => ?_) (fun h16 => ?_)
  · exact ⟨_, rfl, trivial⟩
  · refine Ok.ite (fun h17 => ?_) (fun h17 => ?_)
    · exact ⟨_, rfl, trivial⟩
    · refine Ok.ite (fun h18 => ?_) (fun h18 => ?_)
      · unfold J_Reader_rank_26
        exact ⟨_, rfl, trivial⟩
      · refine Ok.ite (fun h19 => ?_) (fun h19 => ?_)
        · unfold J_Reader_rank_26
          exact ⟨_, rfl, trivial⟩
        · exact ⟨_, rfl, trivial⟩
set_option maxHeartbeats 4000000 in
set_option maxRecDepth 20000 in
theorem tq_Reader_stopLate {p1 : Int32} {M : gM} {L : gL} : ∃ M', F_Reader_stopLate p1 M = some M' ∧ Kq P3 M L M' L := by
  show Ok _ _
  unfold F_Reader_stopLate
  refine Ok.ite (fun h20 => ?_) (fun h20 => ?_)
  · refine Ok.nmM (fun M21 eM21 => ?_)
    refine Ok.nmM (fun M22 eM22 => ?_)
    exact ⟨_, rfl, (Kq.wM (Kq.wM Kq.rf (rfl) (by decide) eM21) (rfl) (by decide) eM22)⟩
  · exact ⟨_, rfl, Kq.rf⟩
set_option maxHeartbeats 4000000 in
set_option maxRecDepth 20000 in
theorem tq_Tokens_valueAt {p1 : Int32} {L : gL} : ∃ r, F_Tokens_valueAt p1 L = some r ∧ True := by
  show Ok _ _
  unfold F_Tokens_valueAt
  refine Ok.ite (fun h23 => ?_) (fun h23 => ?_)
  · exact ⟨_, rfl, trivial⟩
  · refine Ok.ite (fun h24 => ?_) (fun h24 => ?_)
    · exact ⟨_, rfl, trivial⟩
    · refine Ok.gd (vin_of h23 h24 (by decide)) ?_
      exact ⟨_, rfl, trivial⟩
set_option maxHeartbeats 4000000 in
set_option maxRecDepth 20000 in
theorem tq_Land_clear {Ld0 : Nat} {M : gM} {L : gL} (hLd0 : isLa Ld0) : ∃ M', F_Land_clear Ld0 M = some M' ∧ Kq (PD Ld0) M L M' L := by
  show Ok _ _
  unfold F_Land_clear
  refine Ok.nmM (fun M25 eM25 => ?_)
  refine Ok.nmM (fun M26 eM26 => ?_)
  refine Ok.nmM (fun M27 eM27 => ?_)
  refine Ok.nmM (fun M28 eM28 => ?_)
  refine Ok.nmM (fun M29 eM29 => ?_)
  refine Ok.c1 (tf_Main_wipe (by decide)) (fun M30 k31 => ?_)
  refine Ok.c1 (tq_Law_clear (L := L) (isLw_9 hLd0)) (fun M32 k33 => ?_)
  refine Ok.c1 (tq_Law_clear (L := L) (isLw_13 hLd0)) (fun M34 k35 => ?_)
  refine Ok.c1 (tq_Law_clear (L := L) (isLw_17 hLd0)) (fun M36 k37 => ?_)
  refine Ok.c1 (tq_Law_clear (L := L) (isLw_21 hLd0)) (fun M38 k39 => ?_)
  exact ⟨_, rfl, (Kq.trans (Kq.trans (Kq.trans (Kq.trans (Kq.trans (Kq.wM (Kq.wM (Kq.wM (Kq.wM (Kq.wM Kq.rf (PD_o ⟨by omega, by omega⟩) (fun q => absurd q.1 (by have := La_12 hLd0; omega)) eM25) (PD_o ⟨by omega, by omega⟩) (fun q => absurd q.1 (by have := La_12 hLd0; omega)) eM26) (PD_o ⟨by omega, by omega⟩) (fun q => absurd q.1 (by have := La_12 hLd0; omega)) eM27) (PD_o ⟨by omega, by omega⟩) (fun q => absurd q.1 (by have := La_12 hLd0; omega)) eM28) (PD_o ⟨by omega, by omega⟩) (fun q => absurd q.1 (by have := La_12 hLd0; omega)) eM29) (Kq.one k31 (fun _ => PD_o ⟨by omega, by omega⟩) (by have := La_12 hLd0; omega))) (Kq.mono k33 (PW_PD (k := 9) (by decide)))) (Kq.mono k35 (PW_PD (k := 13) (by decide)))) (Kq.mono k37 (PW_PD (k := 17) (by decide)))) (Kq.mono k39 (PW_PD (k := 21) (by decide))))⟩
set_option maxHeartbeats 4000000 in
set_option maxRecDepth 20000 in
theorem tq_Law_closeIf {Wl0 : Nat} {p1 : Int32} {M : gM} {L : gL} (hWl0 : isLw Wl0) : ∃ M', F_Law_closeIf Wl0 p1 M = some M' ∧ Kq (PW Wl0) M L M' L := by
  show Ok _ _
  unfold F_Law_closeIf
  refine Ok.c1 (tq_Law_add (L := L) hWl0) (fun M40 k41 => ?_)
  refine Ok.c1 (tf_Main_put (by decide)) (fun M42 k43 => ?_)
  exact ⟨_, rfl, (Kq.trans (Kq.trans Kq.rf k41) (Kq.one k43 (fun _ => PW_o ⟨by omega, by omega⟩) (by have := Lw_12 hWl0; omega)))⟩
set_option maxHeartbeats 4000000 in
set_option maxRecDepth 20000 in
theorem tq_Law_openIf {Wl0 : Nat} {M : gM} {L : gL} (hWl0 : isLw Wl0) : ∃ r M', F_Law_openIf Wl0 M = some (r, M') ∧ True ∧ Kq (PW Wl0) M L M' L := by
  refine Ok.x2 (A := fun r M' => True ∧ Kq (PW Wl0) M L M' L) ?_
  unfold F_Law_openIf
  refine Ok.c1 (tq_Law_add (L := L) hWl0) (fun M44 k45 => ?_)
  refine Ok.c1 (tq_Law_add (L := L) hWl0) (fun M46 k47 => ?_)
  exact ⟨_, rfl, trivial, (Kq.trans (Kq.trans Kq.rf k45) k47)⟩
set_option maxHeartbeats 4000000 in
set_option maxRecDepth 20000 in
theorem tq_Reader_holdSign {p1 : Int32} {M : gM} {L : gL} : ∃ M', F_Reader_holdSign p1 M = some M' ∧ Kq P3 M L M' L := by
  show Ok _ _
  unfold F_Reader_holdSign
  refine Ok.c1 (tf_Main_put (by decide)) (fun M48 k49 => ?_)
  refine Ok.nmM (fun M50 eM50 => ?_)
  exact ⟨_, rfl, (Kq.wM (Kq.trans Kq.rf (Kq.one k49 (fun _ => rfl) (by decide))) (rfl) (by decide) eM50)⟩
set_option maxHeartbeats 4000000 in
set_option maxRecDepth 20000 in
theorem tq_Reader_is {p1 : Int32} {M : gM}  : ∃ r, F_Reader_is p1 M = some r ∧ (r = 0 ∨ r = 1) := by
  show Ok _ _
  unfold F_Reader_is
  refine Ok.c1 (tf_Main_at (by decide)) (fun r51 _ => ?_)
  refine Ok.ite (fun h52 => ?_) (fun h52 => ?_)
  · exact ⟨_, rfl, (Or.inr rfl)⟩
  · exact ⟨_, rfl, (Or.inl rfl)⟩
theorem la_add {Wl : Nat} {x : Int32} {M : gM} : ∃ M', F_Law_add Wl x M = some M' ∧ ∀ c j, c ≠ Wl → c ≠ Wl + 1 → M' c j = M c j := by
  unfold F_Law_add
  by_cases h1 : M Wl 1 < 0
  · rw [if_pos h1]; exact ⟨_, rfl, fun _ _ _ _ => rfl⟩
  rw [if_neg h1]
  by_cases h2 : 400 ≤ M Wl 1
  · rw [if_pos h2]; exact ⟨_, rfl, fun _ _ _ _ => rfl⟩
  rw [if_neg h2, if_neg (vin_of h1 (by exact h2) (by decide) : ¬ (M Wl 1 < 0 ∨ 400 ≤ (M Wl 1).toNatClampNeg)), nmM_e, nmM_e]
  exact ⟨_, rfl, fun c j g1 g2 => by rw [uM_diff (fun q => g1 q.1), uM_diff (fun q => g2 q.1)]⟩
theorem layL {Wl : Nat} {p : Int32} {L : gL} (hW : isLw Wl) : ∀ (f : Nat) (M : gM), (M 3 10).toInt.toNat < f → ∃ M', H_Reader_layHeld_0 Wl p f M = some M' ∧ Kq (PW Wl) M L M' L := by
  have h12 := Lw_12 hW
  intro f
  induction f with
  | zero => intro M h; exact absurd h (Nat.not_lt_zero _)
  | succ f ih =>
    intro M h
    show ∃ M', B_Reader_layHeld_0 Wl p (H_Reader_layHeld_0 Wl p f) M = some M' ∧ _
    unfold B_Reader_layHeld_0
    by_cases h0 : M 3 10 ≤ 0
    · rw [if_pos h0]; exact ⟨_, rfl, Kq.rf⟩
    rw [if_neg h0]
    obtain ⟨r1, e1, -⟩ := tf_Main_at (a1 := 11) (N1 := 32) (p2 := M 3 10 - 1) (M := M) (by decide)
    obtain ⟨r2, e2, -⟩ := tq_Reader_rank (p1 := r1)
    rw [e1, bI_s, e2, bI_s]
    by_cases h2 : r2 < p
    · rw [if_pos h2]; exact ⟨_, rfl, Kq.rf⟩
    rw [if_neg h2, nmM_e]
    obtain ⟨r3, e3, -⟩ := tf_Main_at (a1 := 11) (N1 := 32) (p2 := uM M 3 10 (M 3 10 - 1) 3 10) (M := uM M 3 10 (M 3 10 - 1)) (by decide)
    rw [e3, bI_s]
    obtain ⟨M', e4, h4⟩ := la_add (Wl := Wl) (x := 20000 + r3) (M := uM M 3 10 (M 3 10 - 1))
    obtain ⟨M9, e5, h5⟩ := tq_Law_add (Wl0 := Wl) (p1 := 20000 + r3) (M := uM M 3 10 (M 3 10 - 1)) (L := L) hW
    have e6 : M9 = M' := Option.some.inj (e5.symm.trans e4)
    subst e6
    rw [e4, bI_s]
    have hk : Kq (PW Wl) M L (uM M 3 10 (M 3 10 - 1)) L := Kq.wM Kq.rf (P3_PW _ _ rfl) (by decide) rfl
    obtain ⟨M2, g1, g2⟩ := ih M9 (by
      rw [h4 3 10 (by omega) (by omega), uM_same]
      exact md_lay h0 rfl h)
    exact ⟨M2, g1, (hk.trans h5).trans g2⟩
theorem tq_Reader_layHeld {Wl1 : Nat} {p2 : Int32} {M : gM} {L : gL} (hWl1 : isLw Wl1) : ∃ M', F_Reader_layHeld Wl1 p2 M = some M' ∧ Kq (PW Wl1) M L M' L := layL hWl1 FU M (by have := i_b (M 3 10); unfold FU; omega)

set_option maxHeartbeats 4000000 in
set_option maxRecDepth 20000 in
theorem tq_Reader_take  {M : gM} {L : gL} : ∃ M', F_Reader_take M = some M' ∧ Kq P3 M L M' L := by
  show Ok _ _
  unfold F_Reader_take
  refine Ok.ite (fun h53 => ?_) (fun h53 => ?_)
  · refine Ok.ite (fun h54 => ?_) (fun h54 => ?_)
    · refine Ok.nmM (fun M55 eM55 => ?_)
      exact ⟨_, rfl, (Kq.wM Kq.rf (rfl) (by decide) eM55)⟩
    · refine Ok.c1 (tq_Reader_stop (L := L) ) (fun M56 k57 => ?_)
      exact ⟨_, rfl, (Kq.trans Kq.rf k57)⟩
  · exact ⟨_, rfl, Kq.rf⟩
set_option maxHeartbeats 4000000 in
set_option maxRecDepth 20000 in
theorem tq_Reader_need {p1 : Int32} {M : gM} {L : gL} : ∃ M', F_Reader_need p1 M = some M' ∧ Kq P3 M L M' L := by
  show Ok _ _
  unfold F_Reader_need
  refine Ok.c1 (tq_Reader_is ) (fun r58 hbr58 => ?_)
  refine Ok.ite (fun h59 => ?_) (fun h59 => ?_)
  · refine Ok.c1 (tq_Reader_stop (L := L) ) (fun M60 k61 => ?_)
    exact ⟨_, rfl, (Kq.trans Kq.rf k61)⟩
  · refine Ok.c1 (tq_Reader_take (L := L) ) (fun M62 k63 => ?_)
    exact ⟨_, rfl, (Kq.trans Kq.rf k63)⟩
set_option maxHeartbeats 4000000 in
set_option maxRecDepth 20000 in
theorem tq_Reader_takeClose {Wl1 : Nat} {M : gM} {L : gL} (hWl1 : isLw Wl1) : ∃ M', F_Reader_takeClose Wl1 M = some M' ∧ Kq (PW Wl1) M L M' L := by
  show Ok _ _
  unfold F_Reader_takeClose
  refine Ok.c1 (tq_Reader_is ) (fun r64 hbr64 => ?_)
  refine Ok.ite (fun h65 => ?_) (fun h65 => ?_)
  · refine Ok.c1 (tq_Reader_stop (L := L) ) (fun M66 k67 => ?_)
    exact ⟨_, rfl, (Kq.trans Kq.rf (Kq.mono k67 P3_PW))⟩
  · refine Ok.c1 (tq_Reader_layHeld (L := L) hWl1) (fun M68 k69 => ?_)
    refine Ok.nmM (fun M70 eM70 => ?_)
    refine Ok.nmM (fun M71 eM71 => ?_)
    refine Ok.c1 (tq_Reader_take (L := L) ) (fun M72 k73 => ?_)
    exact ⟨_, rfl, (Kq.trans (Kq.wM (Kq.wM (Kq.trans Kq.rf k69) ((P3_PW _ _ rfl)) (by decide) eM70) ((P3_PW _ _ rfl)) (by decide) eM71) (Kq.mono k73 P3_PW))⟩
set_option maxHeartbeats 4000000 in
set_option maxRecDepth 20000 in
theorem tq_Reader_takeSign {Wl1 : Nat} {M : gM} {L : gL} (hWl1 : isLw Wl1) : ∃ M', F_Reader_takeSign Wl1 M = some M' ∧ Kq (PW Wl1) M L M' L := by
  show Ok _ _
  unfold F_Reader_takeSign
  refine Ok.c1 (tf_Main_at (by decide)) (fun r74 _ => ?_)
  refine Ok.c1 (tq_Reader_rank ) (fun r75 _ => ?_)
  refine Ok.c1 (tq_Reader_layHeld (L := L) hWl1) (fun M76 k77 => ?_)
  refine Ok.c1 (tq_Reader_holdSign (L := L) ) (fun M78 k79 => ?_)
  refine Ok.c1 (tq_Reader_take (L := L) ) (fun M80 k81 => ?_)
  exact ⟨_, rfl, (Kq.trans (Kq.trans (Kq.trans Kq.rf k77) (Kq.mono k79 P3_PW)) (Kq.mono k81 P3_PW))⟩
set_option maxHeartbeats 4000000 in
set_option maxRecDepth 20000 in
theorem tq_Reader_takeUnit {Wl1 : Nat} {M : gM} {L : gL} (hWl1 : isLw Wl1) : ∃ r M', F_Reader_takeUnit Wl1 M L = some (r, M') ∧ (r = 0 ∨ r = 1) ∧ Kq (PW Wl1) M L M' L := by
  refine Ok.x2 (A := fun r M' => (r = 0 ∨ r = 1) ∧ Kq (PW Wl1) M L M' L) ?_
  unfold F_Reader_takeUnit
  refine Ok.c1 (tf_Main_at (by decide)) (fun r82 _ => ?_)
  refine Ok.ite (fun h83 => ?_) (fun h83 => ?_)
  · refine Ok.ite (fun h84 => ?_) (fun h84 => ?_)
    · refine Ok.nmM (fun M85 eM85 => ?_)
      refine Ok.c1 (tq_Reader_holdSign (L := L) ) (fun M86 k87 => ?_)
      refine Ok.c1 (tq_Reader_take (L := L) ) (fun M88 k89 => ?_)
      exact ⟨_, rfl, (Or.inr rfl), (Kq.trans (Kq.trans (Kq.wM Kq.rf ((P3_PW _ _ rfl)) (by decide) eM85) (Kq.mono k87 P3_PW)) (Kq.mono k89 P3_PW))⟩
    · refine Ok.c1 (tq_Reader_stop (L := L) ) (fun M90 k91 => ?_)
      exact ⟨_, rfl, (Or.inr rfl), (Kq.trans Kq.rf (Kq.mono k91 P3_PW))⟩
  · refine Ok.ite (fun h92 => ?_) (fun h92 => ?_)
    · refine Ok.c1 (tq_Tokens_valueAt ) (fun r93 _ => ?_)
      refine Ok.c1 (tq_Law_add (L := L) hWl1) (fun M94 k95 => ?_)
      refine Ok.c1 (tq_Reader_take (L := L) ) (fun M96 k97 => ?_)
      exact ⟨_, rfl, (Or.inl rfl), (Kq.trans (Kq.trans Kq.rf k95) (Kq.mono k97 P3_PW))⟩
    · refine Ok.c1 (tf_Main_isOne ) (fun r98 hbr98 => ?_)
      refine Ok.ite (fun h99 => ?_) (fun h99 => ?_)
      · refine Ok.c1 (tq_Reader_stop (L := L) ) (fun M100 k101 => ?_)
        exact ⟨_, rfl, (Or.inl rfl), (Kq.trans Kq.rf (Kq.mono k101 P3_PW))⟩
      · refine Ok.c1 (tq_Law_add (L := L) hWl1) (fun M102 k103 => ?_)
        refine Ok.c1 (tq_Reader_take (L := L) ) (fun M104 k105 => ?_)
        exact ⟨_, rfl, (Or.inl rfl), (Kq.trans (Kq.trans Kq.rf k103) (Kq.mono k105 P3_PW))⟩
set_option maxHeartbeats 4000000 in
set_option maxRecDepth 20000 in
theorem tq_Reader_takeIngredient {Ld1 : Nat} {p2 : Int32} {M : gM} {L : gL} (hLd1 : isLa Ld1) : ∃ M', F_Reader_takeIngredient Ld1 p2 M L = some M' ∧ Kq (PD Ld1) M L M' L := by
  show Ok _ _
  unfold F_Reader_takeIngredient
  refine Ok.c1 (tq_Reader_is ) (fun r106 hbr106 => ?_)
  refine Ok.ite (fun h107 => ?_) (fun h107 => ?_)
  · unfold J_Reader_takeIngredient_78
    refine Ok.c1 (tq_Reader_need (L := L) ) (fun M108 k109 => ?_)
    exact ⟨_, rfl, (Kq.trans Kq.rf (Kq.mono k109 P3_PD))⟩
  · refine Ok.c1 (tq_Tokens_valueAt ) (fun r110 _ => ?_)
    refine Ok.c1 (tq_Reader_indexOf ) (fun r111 _ => ?_)
    refine Ok.ite (fun h112 => ?_) (fun h112 => ?_)
    · refine Ok.c1 (tf_Main_at (by decide)) (fun r113 _ => ?_)
      unfold J_Reader_takeIngredient_40
      refine Ok.ite (fun h114 => ?_) (fun h114 => ?_)
      · refine Ok.c1 (tf_Land_inDish hLd1) (fun r115 _ => ?_)
        refine Ok.c1 (tf_Main_put (by decide)) (fun M116 k117 => ?_)
        unfold J_Reader_takeIngredient_78
        refine Ok.c1 (tq_Reader_need (L := L) ) (fun M118 k119 => ?_)
        exact ⟨_, rfl, (Kq.trans (Kq.trans Kq.rf (Kq.one k117 (fun _ => PD_o ⟨by omega, by omega⟩) (by have := La_12 hLd1; omega))) (Kq.mono k119 P3_PD))⟩
      · refine Ok.c1 (tq_Reader_stopLate (L := L) ) (fun M120 k121 => ?_)
        unfold J_Reader_takeIngredient_78
        refine Ok.c1 (tq_Reader_need (L := L) ) (fun M122 k123 => ?_)
        exact ⟨_, rfl, (Kq.trans (Kq.trans Kq.rf (Kq.mono k121 P3_PD)) (Kq.mono k123 P3_PD))⟩
    · unfold J_Reader_takeIngredient_40
      refine Ok.c1 (tq_Reader_stopLate (L := L) ) (fun M124 k125 => ?_)
      unfold J_Reader_takeIngredient_78
      refine Ok.c1 (tq_Reader_need (L := L) ) (fun M126 k127 => ?_)
      exact ⟨_, rfl, (Kq.trans (Kq.trans Kq.rf (Kq.mono k125 P3_PD)) (Kq.mono k127 P3_PD))⟩
set_option maxHeartbeats 4000000 in
set_option maxRecDepth 20000 in
theorem tq_Reader_takeInt {p1 : Int32} {M : gM} {L : gL} : ∃ r M', F_Reader_takeInt p1 M L = some (r, M') ∧ True ∧ Kq P3 M L M' L := by
  refine Ok.x2 (A := fun r M' => True ∧ Kq P3 M L M' L) ?_
  unfold F_Reader_takeInt
  refine Ok.c1 (tq_Tokens_valueAt ) (fun r128 _ => ?_)
  refine Ok.nmI (fun x129 ex129 => ?_)
  refine Ok.c1 (tq_Reader_is ) (fun r130 hbr130 => ?_)
  refine Ok.ite (fun h131 => ?_) (fun h131 => ?_)
  · unfold J_Reader_takeInt_31
    refine Ok.c1 (tq_Reader_need (L := L) ) (fun M132 k133 => ?_)
    exact ⟨_, rfl, trivial, (Kq.trans Kq.rf k133)⟩
  · refine Ok.ite (fun h134 => ?_) (fun h134 => ?_)
    · unfold J_Reader_takeInt_31
      refine Ok.c1 (tq_Reader_need (L := L) ) (fun M135 k136 => ?_)
      exact ⟨_, rfl, trivial, (Kq.trans Kq.rf k136)⟩
    · refine Ok.c1 (tq_Reader_stopLate (L := L) ) (fun M137 k138 => ?_)
      unfold J_Reader_takeInt_31
      refine Ok.c1 (tq_Reader_need (L := L) ) (fun M139 k140 => ?_)
      exact ⟨_, rfl, trivial, (Kq.trans (Kq.trans Kq.rf k138) k140)⟩
set_option maxHeartbeats 4000000 in
set_option maxRecDepth 20000 in
theorem tq_Reader_takeNewName {p1 : Int32} {M : gM} {L : gL} : ∃ M' L', F_Reader_takeNewName p1 M L = some (M', L') ∧ Kq P3 M L M' L' := by
  refine Ok.x2 (A := fun M' L' => Kq P3 M L M' L') ?_
  unfold F_Reader_takeNewName
  refine Ok.c1 (tq_Reader_is ) (fun r141 hbr141 => ?_)
  refine Ok.ite (fun h142 => ?_) (fun h142 => ?_)
  · unfold J_Reader_takeNewName_97
    refine Ok.c1 (tq_Reader_need (L := L) ) (fun M143 k144 => ?_)
    exact ⟨_, rfl, (Kq.trans Kq.rf k144)⟩
  · refine Ok.c1 (tq_Tokens_valueAt ) (fun r145 _ => ?_)
    refine Ok.c1 (tq_Reader_indexOf ) (fun r146 _ => ?_)
    refine Ok.ite (fun h147 => ?_) (fun h147 => ?_)
    · refine Ok.ite (fun h148 => ?_) (fun h148 => ?_)
      · unfold J_Reader_takeNewName_97
        refine Ok.c1 (tq_Reader_need (L := L) ) (fun M149 k150 => ?_)
        exact ⟨_, rfl, (Kq.trans Kq.rf k150)⟩
      · refine Ok.ite (fun h151 => ?_) (fun h151 => ?_)
        · unfold J_Reader_takeNewName_97
          refine Ok.c1 (tq_Reader_need (L := L) ) (fun M152 k153 => ?_)
          exact ⟨_, rfl, (Kq.trans Kq.rf k153)⟩
        · refine Ok.ite (fun h154 => ?_) (fun h154 => ?_)
          · unfold J_Reader_takeNewName_97
            refine Ok.c1 (tq_Reader_need (L := L) ) (fun M155 k156 => ?_)
            exact ⟨_, rfl, (Kq.trans Kq.rf k156)⟩
          · refine Ok.gd (vin_of h148 h154 (by decide)) ?_
            refine Ok.nmL (fun L157 eL157 => ?_)
            refine Ok.gd (vin_of h148 h154 (by decide)) ?_
            refine Ok.nmM (fun M158 eM158 => ?_)
            refine Ok.nmM (fun M159 eM159 => ?_)
            unfold J_Reader_takeNewName_97
            refine Ok.c1 (tq_Reader_need (L := L157) ) (fun M160 k161 => ?_)
            exact ⟨_, rfl, (Kq.trans (Kq.wM (Kq.wM (Kq.wL Kq.rf eL157) (rfl) (fun q => absurd q.1 (by decide)) eM158) (rfl) (by decide) eM159) k161)⟩
    · refine Ok.c1 (tq_Reader_stopLate (L := L) ) (fun M162 k163 => ?_)
      unfold J_Reader_takeNewName_97
      refine Ok.c1 (tq_Reader_need (L := L) ) (fun M164 k165 => ?_)
      exact ⟨_, rfl, (Kq.trans (Kq.trans Kq.rf k163) k165)⟩
set_option maxHeartbeats 4000000 in
set_option maxRecDepth 20000 in
theorem tq_Reader_takeSum {Wl1 : Nat} {M : gM} {L : gL} (hWl1 : isLw Wl1) : ∃ M', F_Reader_takeSum Wl1 M L = some M' ∧ Kq (PW Wl1) M L M' L := by
  show Ok _ _
  unfold F_Reader_takeSum
  refine Ok.nmM (fun M166 eM166 => ?_)
  refine Ok.nmM (fun M167 eM167 => ?_)
  have LP171 : ∀ (f168 : Nat) (v172 : Int32) (v173 : Int32) (M174 : gM), Kq (PW Wl1) M L M174 L → ¬ v173 < 0 → ((400 : Int32).toInt + 1 - v173.toInt).toNat < f168 → Ok (H_Reader_takeSum_14 Wl1 L f168 v172 v173 M174) (fun q => Kq (PW Wl1) M L q L) := by
    intro f168
    induction f168 with
    | zero => intro v172 v173 M174 _ _ hm170; exact absurd hm170 (Nat.not_lt_zero _)
    | succ f168 ih169 =>
      intro v172 v173 M174 k175 n176 hm170
      show Ok (B_Reader_takeSum_14 Wl1 L (H_Reader_takeSum_14 Wl1 L f168) v172 v173 M174) _
      unfold B_Reader_takeSum_14
      refine Ok.ite (fun h177 => ?_) (fun h177 => ?_)
      · unfold J_Reader_takeSum_89
        refine Ok.c1 (tq_Reader_layHeld (L := L) hWl1) (fun M178 k179 => ?_)
        exact ⟨_, rfl, (Kq.trans k175 k179)⟩
      · refine Ok.ite (fun h180 => ?_) (fun h180 => ?_)
        · refine Ok.ite (fun h181 => ?_) (fun h181 => ?_)
          · refine Ok.c1 (tf_Main_at (by decide)) (fun r182 _ => ?_)
            refine Ok.c1 (tq_Reader_rank ) (fun r183 _ => ?_)
            refine Ok.ite (fun h184 => ?_) (fun h184 => ?_)
            · refine Ok.ite (fun h185 => ?_) (fun h185 => ?_)
              · unfold J_Reader_takeSum_89
                refine Ok.c1 (tq_Reader_layHeld (L := L) hWl1) (fun M186 k187 => ?_)
                exact ⟨_, rfl, (Kq.trans k175 k187)⟩
              · refine Ok.c1 (tq_Reader_takeClose (L := L) hWl1) (fun M188 k189 => ?_)
                unfold J_Reader_takeSum_83
                refine Ok.nmI (fun x190 ex190 => ?_)
                exact ih169 v172 x190 M188 (Kq.trans k175 k189) (nn_upe (y := (400 : Int32)) h177 (by decide) ex190 n176) (md_upe h177 (by decide) ex190 hm170)
            · refine Ok.c1 (tq_Reader_takeSign (L := L) hWl1) (fun M191 k192 => ?_)
              unfold J_Reader_takeSum_83
              refine Ok.nmI (fun x193 ex193 => ?_)
              exact ih169 1 x193 M191 (Kq.trans k175 k192) (nn_upe (y := (400 : Int32)) h177 (by decide) ex193 n176) (md_upe h177 (by decide) ex193 hm170)
          · refine Ok.c2 (tq_Reader_takeUnit hWl1) (fun r194 M195 ⟨hbr194, k196⟩ => ?_)
            unfold J_Reader_takeSum_83
            refine Ok.nmI (fun x197 ex197 => ?_)
            exact ih169 r194 x197 M195 (Kq.trans k175 k196) (nn_upe (y := (400 : Int32)) h177 (by decide) ex197 n176) (md_upe h177 (by decide) ex197 hm170)
        · unfold J_Reader_takeSum_89
          refine Ok.c1 (tq_Reader_layHeld (L := L) hWl1) (fun M198 k199 => ?_)
          exact ⟨_, rfl, (Kq.trans k175 k199)⟩
  exact LP171 _ 1 0 M167 (Kq.wM (Kq.wM Kq.rf ((P3_PW _ _ rfl)) (by decide) eM166) ((P3_PW _ _ rfl)) (by decide) eM167) (by decide) fu_upe
set_option maxHeartbeats 4000000 in
set_option maxRecDepth 20000 in
theorem tq_Reader_takeDeed {Ld1 : Nat} {M : gM} {L : gL} (hLd1 : isLa Ld1) : ∃ M' L', F_Reader_takeDeed Ld1 M L = some (M', L') ∧ Kq (PD Ld1) M L M' L' := by
  refine Ok.x2 (A := fun M' L' => Kq (PD Ld1) M L M' L') ?_
  unfold F_Reader_takeDeed
  refine Ok.nmI (fun x200 ex200 => ?_)
  refine Ok.ite (fun h201 => ?_) (fun h201 => ?_)
  · refine Ok.c1 (tq_Reader_take (L := L) ) (fun M202 k203 => ?_)
    refine Ok.c2 (tq_Reader_takeNewName ) (fun M204 L206 k205 => ?_)
    refine Ok.c2 (tq_Reader_takeInt ) (fun r207 M208 ⟨_, k209⟩ => ?_)
    refine Ok.c1 (tf_Main_put (by decide)) (fun M210 k211 => ?_)
    refine Ok.c2 (tq_Reader_takeInt ) (fun r212 M213 ⟨_, k214⟩ => ?_)
    refine Ok.c1 (tf_Main_put (by decide)) (fun M215 k216 => ?_)
    refine Ok.c1 (tq_Reader_need (L := L206) ) (fun M217 k218 => ?_)
    refine Ok.nmM (fun M219 eM219 => ?_)
    exact ⟨_, rfl, (Kq.wM (Kq.trans (Kq.trans (Kq.trans (Kq.trans (Kq.trans (Kq.trans (Kq.trans Kq.rf (Kq.mono k203 P3_PD)) (Kq.mono k205 P3_PD)) (Kq.mono k209 P3_PD)) (Kq.one k211 (fun _ => PD_o ⟨by omega, by omega⟩) (by have := La_12 hLd1; omega))) (Kq.mono k214 P3_PD)) (Kq.one k216 (fun _ => PD_o ⟨by omega, by omega⟩) (by have := La_12 hLd1; omega))) (Kq.mono k218 P3_PD)) (PD_o ⟨by omega, by omega⟩) (fun q => absurd q.1 (by have := La_12 hLd1; omega)) eM219)⟩
  · refine Ok.c1 (tq_Reader_stop (L := L) ) (fun M220 k221 => ?_)
    exact ⟨_, rfl, (Kq.trans Kq.rf (Kq.mono k221 P3_PD))⟩
set_option maxHeartbeats 4000000 in
set_option maxRecDepth 20000 in
theorem tq_Reader_takeDish {Ld1 : Nat} {M : gM} {L : gL} (hLd1 : isLa Ld1) : ∃ M' L', F_Reader_takeDish Ld1 M L = some (M', L') ∧ Kq (PD Ld1) M L M' L' := by
  refine Ok.x2 (A := fun M' L' => Kq (PD Ld1) M L M' L') ?_
  unfold F_Reader_takeDish
  refine Ok.nmI (fun x222 ex222 => ?_)
  refine Ok.ite (fun h223 => ?_) (fun h223 => ?_)
  · refine Ok.c1 (tq_Reader_take (L := L) ) (fun M224 k225 => ?_)
    refine Ok.c2 (tq_Reader_takeNewName ) (fun M226 L228 k227 => ?_)
    refine Ok.c2 (tq_Reader_takeInt ) (fun r229 M230 ⟨_, k231⟩ => ?_)
    refine Ok.c1 (tf_Main_put (by decide)) (fun M232 k233 => ?_)
    refine Ok.c1 (tq_Reader_takeIngredient hLd1) (fun M234 k235 => ?_)
    have LP239 : ∀ (f236 : Nat) (v240 : Int32) (M241 : gM), Kq (PD Ld1) M L M241 L228 → ¬ v240 < 0 → ((6 : Int32).toInt + 1 - v240.toInt).toNat < f236 → Ok (H_Reader_takeDish_47 Ld1 x222 L228 f236 v240 M241) (fun q => Kq (PD Ld1) M L q.1 q.2) := by
      intro f236
      induction f236 with
      | zero => intro v240 M241 _ _ hm238; exact absurd hm238 (Nat.not_lt_zero _)
      | succ f236 ih237 =>
        intro v240 M241 k242 n243 hm238
        show Ok (B_Reader_takeDish_47 Ld1 x222 L228 (H_Reader_takeDish_47 Ld1 x222 L228 f236) v240 M241) _
        unfold B_Reader_takeDish_47
        refine Ok.ite (fun h244 => ?_) (fun h244 => ?_)
        · unfold J_Reader_takeDish_94
          refine Ok.c1 (tq_Reader_need (L := L228) ) (fun M245 k246 => ?_)
          refine Ok.nmM (fun M247 eM247 => ?_)
          exact ⟨_, rfl, (Kq.wM (Kq.trans k242 (Kq.mono k246 P3_PD)) (PD_o ⟨by omega, by omega⟩) (fun q => absurd q.1 (by have := La_12 hLd1; omega)) eM247)⟩
        · refine Ok.ite (fun h248 => ?_) (fun h248 => ?_)
          · refine Ok.c1 (tq_Reader_is ) (fun r249 hbr249 => ?_)
            refine Ok.ite (fun h250 => ?_) (fun h250 => ?_)
            · unfold J_Reader_takeDish_94
              refine Ok.c1 (tq_Reader_need (L := L228) ) (fun M251 k252 => ?_)
              refine Ok.nmM (fun M253 eM253 => ?_)
              exact ⟨_, rfl, (Kq.wM (Kq.trans k242 (Kq.mono k252 P3_PD)) (PD_o ⟨by omega, by omega⟩) (fun q => absurd q.1 (by have := La_12 hLd1; omega)) eM253)⟩
            · refine Ok.ite (fun h254 => ?_) (fun h254 => ?_)
              · refine Ok.c1 (tq_Reader_stop (L := L228) ) (fun M255 k256 => ?_)
                unfold J_Reader_takeDish_88
                refine Ok.nmI (fun x257 ex257 => ?_)
                exact ih237 x257 M255 (Kq.trans k242 (Kq.mono k256 P3_PD)) (nn_upe (y := (6 : Int32)) h244 (by decide) ex257 n243) (md_upe h244 (by decide) ex257 hm238)
              · refine Ok.c1 (tq_Reader_takeIngredient hLd1) (fun M258 k259 => ?_)
                unfold J_Reader_takeDish_88
                refine Ok.nmI (fun x260 ex260 => ?_)
                exact ih237 x260 M258 (Kq.trans k242 k259) (nn_upe (y := (6 : Int32)) h244 (by decide) ex260 n243) (md_upe h244 (by decide) ex260 hm238)
          · unfold J_Reader_takeDish_94
            refine Ok.c1 (tq_Reader_need (L := L228) ) (fun M261 k262 => ?_)
            refine Ok.nmM (fun M263 eM263 => ?_)
            exact ⟨_, rfl, (Kq.wM (Kq.trans k242 (Kq.mono k262 P3_PD)) (PD_o ⟨by omega, by omega⟩) (fun q => absurd q.1 (by have := La_12 hLd1; omega)) eM263)⟩
    exact LP239 _ 1 M234 (Kq.trans (Kq.trans (Kq.trans (Kq.trans (Kq.trans Kq.rf (Kq.mono k225 P3_PD)) (Kq.mono k227 P3_PD)) (Kq.mono k231 P3_PD)) (Kq.one k233 (fun _ => PD_o ⟨by omega, by omega⟩) (by have := La_12 hLd1; omega))) k235) (by decide) fu_upe
  · refine Ok.c1 (tq_Reader_stop (L := L) ) (fun M264 k265 => ?_)
    exact ⟨_, rfl, (Kq.trans Kq.rf (Kq.mono k265 P3_PD))⟩
set_option maxHeartbeats 4000000 in
set_option maxRecDepth 20000 in
theorem tq_Reader_takeFood {Ld1 : Nat} {M : gM} {L : gL} (hLd1 : isLa Ld1) : ∃ M' L', F_Reader_takeFood Ld1 M L = some (M', L') ∧ Kq (PD Ld1) M L M' L' := by
  refine Ok.x2 (A := fun M' L' => Kq (PD Ld1) M L M' L') ?_
  unfold F_Reader_takeFood
  refine Ok.nmI (fun x266 ex266 => ?_)
  refine Ok.ite (fun h267 => ?_) (fun h267 => ?_)
  · refine Ok.c1 (tq_Reader_take (L := L) ) (fun M268 k269 => ?_)
    refine Ok.c2 (tq_Reader_takeNewName ) (fun M270 L272 k271 => ?_)
    refine Ok.c2 (tq_Reader_takeInt ) (fun r273 M274 ⟨_, k275⟩ => ?_)
    refine Ok.c1 (tf_Main_put (by decide)) (fun M276 k277 => ?_)
    refine Ok.c2 (tq_Reader_takeInt ) (fun r278 M279 ⟨_, k280⟩ => ?_)
    refine Ok.c1 (tf_Main_put (by decide)) (fun M281 k282 => ?_)
    have LP286 : ∀ (f283 : Nat) (v287 : Int32) (M288 : gM), Kq (PD Ld1) M L M288 L272 → ¬ v287 < 0 → ((3 : Int32).toInt - v287.toInt).toNat < f283 → Ok (H_Reader_takeFood_56 Ld1 x266 L272 f283 v287 M288) (fun q => Kq (PD Ld1) M L q.1 q.2) := by
      intro f283
      induction f283 with
      | zero => intro v287 M288 _ _ hm285; exact absurd hm285 (Nat.not_lt_zero _)
      | succ f283 ih284 =>
        intro v287 M288 k289 n290 hm285
        show Ok (B_Reader_takeFood_56 Ld1 x266 L272 (H_Reader_takeFood_56 Ld1 x266 L272 f283) v287 M288) _
        unfold B_Reader_takeFood_56
        refine Ok.ite (fun h291 => ?_) (fun h291 => ?_)
        · unfold J_Reader_takeFood_85
          refine Ok.c1 (tq_Reader_need (L := L272) ) (fun M292 k293 => ?_)
          refine Ok.nmM (fun M294 eM294 => ?_)
          exact ⟨_, rfl, (Kq.wM (Kq.trans k289 (Kq.mono k293 P3_PD)) (PD_o ⟨by omega, by omega⟩) (fun q => absurd q.1 (by have := La_12 hLd1; omega)) eM294)⟩
        · refine Ok.c2 (tq_Reader_takeInt ) (fun r295 M296 ⟨_, k297⟩ => ?_)
          refine Ok.c1 (tf_Main_put (by decide)) (fun M298 k299 => ?_)
          refine Ok.nmI (fun x300 ex300 => ?_)
          exact ih284 x300 M298 (Kq.trans (Kq.trans k289 (Kq.mono k297 P3_PD)) (Kq.one k299 (fun _ => PD_o ⟨by omega, by omega⟩) (by have := La_12 hLd1; omega))) (nn_up (y := (3 : Int32)) h291 ex300 n290) (md_up h291 ex300 hm285)
    exact LP286 _ 0 M281 (Kq.trans (Kq.trans (Kq.trans (Kq.trans (Kq.trans (Kq.trans Kq.rf (Kq.mono k269 P3_PD)) (Kq.mono k271 P3_PD)) (Kq.mono k275 P3_PD)) (Kq.one k277 (fun _ => PD_o ⟨by omega, by omega⟩) (by have := La_12 hLd1; omega))) (Kq.mono k280 P3_PD)) (Kq.one k282 (fun _ => PD_o ⟨by omega, by omega⟩) (by have := La_12 hLd1; omega))) (by decide) fu_up
  · refine Ok.c1 (tq_Reader_stop (L := L) ) (fun M301 k302 => ?_)
    exact ⟨_, rfl, (Kq.trans Kq.rf (Kq.mono k302 P3_PD))⟩
set_option maxHeartbeats 4000000 in
set_option maxRecDepth 20000 in
theorem tq_Reader_takeGuest {Ld1 : Nat} {M : gM} {L : gL} (hLd1 : isLa Ld1) : ∃ M' L', F_Reader_takeGuest Ld1 M L = some (M', L') ∧ Kq (PD Ld1) M L M' L' := by
  refine Ok.x2 (A := fun M' L' => Kq (PD Ld1) M L M' L') ?_
  unfold F_Reader_takeGuest
  refine Ok.nmI (fun x303 ex303 => ?_)
  refine Ok.ite (fun h304 => ?_) (fun h304 => ?_)
  · refine Ok.c1 (tq_Reader_take (L := L) ) (fun M305 k306 => ?_)
    refine Ok.c2 (tq_Reader_takeNewName ) (fun M307 L309 k308 => ?_)
    refine Ok.c2 (tq_Reader_takeInt ) (fun r310 M311 ⟨_, k312⟩ => ?_)
    refine Ok.c1 (tf_Main_put (by decide)) (fun M313 k314 => ?_)
    refine Ok.c1 (tq_Reader_need (L := L309) ) (fun M315 k316 => ?_)
    refine Ok.nmM (fun M317 eM317 => ?_)
    exact ⟨_, rfl, (Kq.wM (Kq.trans (Kq.trans (Kq.trans (Kq.trans (Kq.trans Kq.rf (Kq.mono k306 P3_PD)) (Kq.mono k308 P3_PD)) (Kq.mono k312 P3_PD)) (Kq.one k314 (fun _ => PD_o ⟨by omega, by omega⟩) (by have := La_12 hLd1; omega))) (Kq.mono k316 P3_PD)) (PD_o ⟨by omega, by omega⟩) (fun q => absurd q.1 (by have := La_12 hLd1; omega)) eM317)⟩
  · refine Ok.c1 (tq_Reader_stop (L := L) ) (fun M318 k319 => ?_)
    exact ⟨_, rfl, (Kq.trans Kq.rf (Kq.mono k319 P3_PD))⟩
set_option maxHeartbeats 4000000 in
set_option maxRecDepth 20000 in
theorem tq_Reader_takeLaw {Wl1 : Nat} {M : gM} {L : gL} (hWl1 : isLw Wl1) : ∃ M', F_Reader_takeLaw Wl1 M L = some M' ∧ Kq (PW Wl1) M L M' L := by
  show Ok _ _
  unfold F_Reader_takeLaw
  refine Ok.c1 (tq_Law_clear (L := L) hWl1) (fun M320 k321 => ?_)
  refine Ok.c1 (tq_Reader_take (L := L) ) (fun M322 k323 => ?_)
  refine Ok.c1 (tq_Reader_need (L := L) ) (fun M324 k325 => ?_)
  have LP329 : ∀ (f326 : Nat) (v330 : Int32) (M331 : gM), Kq (PW Wl1) M L M331 L → ¬ v330 < 0 → ((4 : Int32).toInt + 1 - v330.toInt).toNat < f326 → Ok (H_Reader_takeLaw_16 Wl1 L f326 v330 M331) (fun q => Kq (PW Wl1) M L q L) := by
    intro f326
    induction f326 with
    | zero => intro v330 M331 _ _ hm328; exact absurd hm328 (Nat.not_lt_zero _)
    | succ f326 ih327 =>
      intro v330 M331 k332 n333 hm328
      show Ok (B_Reader_takeLaw_16 Wl1 L (H_Reader_takeLaw_16 Wl1 L f326) v330 M331) _
      unfold B_Reader_takeLaw_16
      refine Ok.ite (fun h334 => ?_) (fun h334 => ?_)
      · unfold J_Reader_takeLaw_106
        refine Ok.c1 (tq_Reader_takeSum hWl1) (fun M335 k336 => ?_)
        refine Ok.c1 (tq_Reader_need (L := L) ) (fun M337 k338 => ?_)
        exact ⟨_, rfl, (Kq.trans (Kq.trans k332 k336) (Kq.mono k338 P3_PW))⟩
      · refine Ok.ite (fun h339 => ?_) (fun h339 => ?_)
        · refine Ok.c1 (tq_Reader_is ) (fun r340 hbr340 => ?_)
          refine Ok.ite (fun h341 => ?_) (fun h341 => ?_)
          · unfold J_Reader_takeLaw_106
            refine Ok.c1 (tq_Reader_takeSum hWl1) (fun M342 k343 => ?_)
            refine Ok.c1 (tq_Reader_need (L := L) ) (fun M344 k345 => ?_)
            exact ⟨_, rfl, (Kq.trans (Kq.trans k332 k343) (Kq.mono k345 P3_PW))⟩
          · refine Ok.ite (fun h346 => ?_) (fun h346 => ?_)
            · unfold J_Reader_takeLaw_43
              refine Ok.c1 (tq_Reader_stop (L := L) ) (fun M347 k348 => ?_)
              unfold J_Reader_takeLaw_106
              refine Ok.c1 (tq_Reader_takeSum hWl1) (fun M349 k350 => ?_)
              refine Ok.c1 (tq_Reader_need (L := L) ) (fun M351 k352 => ?_)
              exact ⟨_, rfl, (Kq.trans (Kq.trans (Kq.trans k332 (Kq.mono k348 P3_PW)) k350) (Kq.mono k352 P3_PW))⟩
            · refine Ok.c1 (tq_Reader_take (L := L) ) (fun M353 k354 => ?_)
              refine Ok.c1 (tq_Reader_takeSum hWl1) (fun M355 k356 => ?_)
              refine Ok.c1 (tq_Reader_need (L := L) ) (fun M357 k358 => ?_)
              refine Ok.c1 (tq_Reader_takeSum hWl1) (fun M359 k360 => ?_)
              refine Ok.c1 (tq_Reader_need (L := L) ) (fun M361 k362 => ?_)
              refine Ok.c2 (tq_Law_openIf (L := L) hWl1) (fun r363 M364 ⟨_, k365⟩ => ?_)
              refine Ok.c1 (tq_Reader_takeSum hWl1) (fun M366 k367 => ?_)
              refine Ok.c1 (tq_Reader_need (L := L) ) (fun M368 k369 => ?_)
              refine Ok.c1 (tq_Law_closeIf (L := L) hWl1) (fun M370 k371 => ?_)
              refine Ok.nmI (fun x372 ex372 => ?_)
              exact ih327 x372 M370 (Kq.trans (Kq.trans (Kq.trans (Kq.trans (Kq.trans (Kq.trans (Kq.trans (Kq.trans (Kq.trans k332 (Kq.mono k354 P3_PW)) k356) (Kq.mono k358 P3_PW)) k360) (Kq.mono k362 P3_PW)) k365) k367) (Kq.mono k369 P3_PW)) k371) (nn_upe (y := (4 : Int32)) h334 (by decide) ex372 n333) (md_upe h334 (by decide) ex372 hm328)
        · unfold J_Reader_takeLaw_106
          refine Ok.c1 (tq_Reader_takeSum hWl1) (fun M373 k374 => ?_)
          refine Ok.c1 (tq_Reader_need (L := L) ) (fun M375 k376 => ?_)
          exact ⟨_, rfl, (Kq.trans (Kq.trans k332 k374) (Kq.mono k376 P3_PW))⟩
  exact LP329 _ 0 M324 (Kq.trans (Kq.trans (Kq.trans Kq.rf k321) (Kq.mono k323 P3_PW)) (Kq.mono k325 P3_PW)) (by decide) fu_upe
set_option maxHeartbeats 4000000 in
set_option maxRecDepth 20000 in
theorem tq_Reader_takeSeed {Ld1 : Nat} {M : gM} {L : gL} (hLd1 : isLa Ld1) : ∃ M', F_Reader_takeSeed Ld1 M L = some M' ∧ Kq (PD Ld1) M L M' L := by
  show Ok _ _
  unfold F_Reader_takeSeed
  refine Ok.c1 (tq_Reader_take (L := L) ) (fun M377 k378 => ?_)
  refine Ok.c2 (tq_Reader_takeInt ) (fun r379 M380 ⟨_, k381⟩ => ?_)
  refine Ok.nmM (fun M382 eM382 => ?_)
  refine Ok.c1 (tq_Reader_need (L := L) ) (fun M383 k384 => ?_)
  exact ⟨_, rfl, (Kq.trans (Kq.wM (Kq.trans (Kq.trans Kq.rf (Kq.mono k378 P3_PD)) (Kq.mono k381 P3_PD)) (PD_o ⟨by omega, by omega⟩) (fun q => absurd q.1 (by have := La_12 hLd1; omega)) eM382) (Kq.mono k384 P3_PD))⟩
