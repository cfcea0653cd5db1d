set_option maxRecDepth 100000
theorem q_days : ∀ k : Nat, k < 61 → (bI (F_Main_days 12 (nI k) M00) fun q1 => bI (F_Mod_days (nI k) q1.2) fun q2 => some (decide (q1.1 = q2.1))) = some true := by decide +kernel
theorem q_taste : (bI (F_Main_taste 12 0 M00) fun q1 => bI (F_Mod_taste 0 q1.2) fun q2 => some (decide (q1.1 = q2.1))) = some true := by decide +kernel
