/-! a new object -/
section PAR24
theorem z411 : ∀ i, M00 411 i = 0 := fun i => by cases i <;> rfl
theorem z415 : ∀ i, M00 415 i = 0 := fun i => by cases i <;> rfl
theorem z418 : ∀ i, M00 418 i = 0 := fun i => by cases i <;> rfl
theorem z420 : ∀ i, M00 420 i = 0 := fun i => by cases i <;> rfl
theorem Dl_start : Dl 12 0 M00 := by
  refine ⟨0, 0, 0, 0, 0, 0, ?_, ⟨fun k hk => absurd hk (Nat.not_lt_zero _), ⟨fun k hk => absurd hk (Nat.not_lt_zero _), fun j _ hj => ?_⟩, fun k hk => absurd hk (Nat.not_lt_zero _), fun k hk => absurd hk (Nat.not_lt_zero _), ⟨0, by decide, by decide +kernel, by decide +kernel⟩⟩, fun w hw => Or.inl ?_, by decide, by decide⟩
  · refine ⟨⟨?_, ?_, by decide⟩, ⟨?_, ?_, by decide⟩, ⟨?_, ?_, by decide⟩, ⟨?_, ?_, by decide⟩⟩ <;> decide +kernel
  · exact (by decide +kernel : ∀ j, j < 30 → M00 (12 + 5) j = 0) j hj
  · exact (by decide +kernel : ∀ w, w < 4 → M00 (12 + 9 + 4 * w) 1 = nI 0 ∧ M00 424 (4 * 0 + w) = nI 0 ∧ M00 425 (4 * 0 + w) = nI 0) w hw
theorem Td_start : Td M00 := ⟨0, by decide, by decide +kernel, by decide +kernel, fun i hi => absurd hi (Nat.not_lt_zero _)⟩
theorem Cb_start : Cb M00 := ⟨fun i => by rw [z411]; decide, fun i => by rw [z415]; decide, fun i => by rw [z418]; decide, fun i => by rw [z420]; decide⟩
theorem G0_start : G0 12 M00 L00 := by
  have h18 : M00 401 18 = nI 0 := by decide +kernel
  refine ⟨⟨fun _ => 0, 0, ⟨by decide +kernel, by decide, fun j hj => absurd hj (Nat.not_lt_zero _)⟩, ⟨by decide +kernel, fun j hj => absurd hj (Nat.not_lt_zero _)⟩⟩, isLa_12, ?_, ?_, ?_, ⟨0, by decide, h18, Dl_start⟩, by decide +kernel, Td_start, ⟨0, by decide, by decide +kernel, fun s hs => ?_⟩⟩
  · exact (by decide +kernel : ∀ w, w < 21 → L00 5 w = lN (enc 32 (kwAt w)))
  · exact (by decide +kernel : ∀ w, w < 21 → L00 408 w = lN (enc 27 (kwAt w)))
  · exact Inv_of (by decide) h18 Dl_start Cb_start (by decide +kernel) Td_start
  · rw [Nat.zero_testBit]
    exact (by decide +kernel : ∀ s, s < 3 → M00 445 s = if false = true then 1 else 0) s hs
end PAR24
