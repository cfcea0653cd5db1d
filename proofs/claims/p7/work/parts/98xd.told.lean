/-! the class: a way's row, and whether it is as known -/
section PAR48
section TO
variable {D Q q ld lv nf nd ng ne : Nat} {M M' M1 Mc Mb : gM} {L : gL} {r : Nat → Int32}
theorem Lnd.kRow (h : Lnd ld lv nf nd ng ne M) (e : ∀ x y, ¬ ((387 ≤ x ∧ x ≤ 389) ∨ (x = 383 ∧ y = 7)) → M' x y = M x y) : Lnd ld lv nf nd ng ne M' := h.keep (fun c j q => e c j (by have := gv_num q; omega))
theorem wSum_k (e : ∀ c j, 411 ≤ c → c ≤ 432 → M' c j = M c j) {d v j : Nat} : wSum M' lv nf d v j = wSum M lv nf d v j := by
  unfold wSum; rw [sumS_k e, e 414 _ (by decide) (by decide)]
theorem wMan_k (e : ∀ c j, 411 ≤ c → c ≤ 432 → M' c j = M c j) {d v : Nat} : wMan M' lv nf d v = wMan M lv nf d v := by
  unfold wMan; rw [manS_k e]
theorem wFo_k (e : ∀ c j, 411 ≤ c → c ≤ 432 → M' c j = M c j) {d v : Nat} {a b c : Int32} : wFo M' lv nf d v a b c = wFo M lv nf d v a b c := by
  unfold wFo; rw [potS_k e, wSum_k e, wMan_k e]
theorem wOk_k (e : ∀ c j, 411 ≤ c → c ≤ 432 → M' c j = M c j) {d v : Nat} : wOk M' lv nf d v = wOk M lv nf d v := by
  unfold wOk; rw [manS_k e, e 417 _ (by decide) (by decide)]
/-- the sums of a way into its row -/
theorem c_laySums (hL : Lnd ld lv nf nd ng ne M) {d v c : Nat} {v5 : Int32} (hd : d < nd) (hv : v < 13) (hc : c ≤ 64) (wf : v ≠ 0 → wF v < nf ∧ v5 = nI (wF v)) : ∀ (s k f : Nat) (N : gM), k + s = 3 → (∀ x y, ¬ ((387 ≤ x ∧ x ≤ 389) ∨ (x = 383 ∧ y = 7)) → N x y = M x y) → N 383 7 = nI c → (∀ j, j < k → N 389 (3 * c + j) = wSum M lv nf d v j) →
    ∃ X, H_Told_lay_115 ld (nI d) (wD v) v5 (f + 1 + s) (nI k) N = some (1, X) ∧ (∀ x y, ¬ (x = 389 ∧ 3 * c + k ≤ y ∧ y < 3 * c + 3) → X x y = N x y) ∧ (∀ j, j < 3 → X 389 (3 * c + j) = wSum M lv nf d v j) := by
  intro s
  induction s with
  | zero =>
    intro k f N hk eN ec e
    obtain rfl : k = 3 := by omega
    refine ⟨N, ?_, fun _ _ _ => rfl, e⟩
    show B_Told_lay_115 ld (nI d) (wD v) v5 (H_Told_lay_115 ld (nI d) (wD v) v5 f) (nI 3) N = _
    generalize H_Told_lay_115 ld (nI d) (wD v) v5 f = H
    unfold B_Told_lay_115
    rw [if_pos (by decide)]
  | succ s ih =>
    intro k f N hk eN ec e
    have hN := hL.kRow eN
    have mN : ∀ c j, 411 ≤ c → c ≤ 432 → N c j = M c j := fun x y a b => eN x y (by omega)
    obtain ⟨X, z1, z2, z3⟩ := ih (k + 1) f (uM N 389 (3 * c + k) (wSum M lv nf d v k)) (by omega) (fun x y w => by rw [uM_diff (by omega)]; exact eN x y w) (by rw [uM_diff (by omega)]; exact ec) (fun j hj => by
      by_cases w : j = k
      · rw [w, uM_same]
      · rw [uM_diff (by omega)]; exact e j (by omega))
    refine ⟨X, ?_, fun x y w => by rw [z2 x y (by omega), uM_diff (by omega)], z3⟩
    rw [← z1]
    show B_Told_lay_115 ld (nI d) (wD v) v5 (H_Told_lay_115 ld (nI d) (wD v) v5 (f + 1 + s)) (nI k) N = _
    generalize H_Told_lay_115 ld (nI d) (wD v) v5 (f + 1 + s) = H
    unfold B_Told_lay_115 J_Told_lay_141
    have e3 : ¬ (3 : Int32) ≤ nI k := by rw [show (3 : Int32) = nI 3 from rfl, nI_leI (by omega) (by omega)]; omega
    have es : F_Land_sumOf ld (nI d) (nI k) N = some (sumS M lv nf d k) := by rw [c_sumOf hN hd (by omega), sumS_k mN]
    have ei : ∀ x : Int32, x = nI c → x * 3 + nI k = nI (3 * c + k) := fun x w => by
      rw [w, show (3 : Int32) = nI 3 from rfl, nI_mul, nI_add, Nat.mul_comm]
    rw [if_neg e3]
    by_cases v0 : v = 0
    · have d0 : wD v = 0 := by unfold wD; rw [if_pos v0]
      rw [if_pos d0, es, bI_s, ei _ ec, s_put (by omega) (by decide), bI_s, nmI_e, nI_1]
      unfold wSum
      rw [if_pos v0]
    · obtain ⟨w1, w2⟩ := wf v0
      have d0 : ¬ wD v = 0 := by
        unfold wD
        rw [if_neg v0]
        by_cases v6 : v ≤ 6
        · rw [if_pos v6]; decide
        · rw [if_neg v6]; decide
      rw [if_neg d0, w2, c_brought hN w1 (by omega), mN 414 _ (by decide) (by decide), bI_s, es, bI_s, ei _ ec, s_put (by omega) (by decide), bI_s, nmI_e, nI_1]
      unfold wSum
      rw [if_neg v0]
end TO
end PAR48
