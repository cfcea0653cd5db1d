set_option maxRecDepth 100000
theorem q_read : (bI (F_Main_read 12 M00 L00) fun q1 => bI (F_Mod_read q1.2.1 q1.2.2.1) fun q2 => some (decide (q1.1 = q2.1))) = some true := by decide +kernel
theorem q_place : F_Main_place M00 = F_Mod_place M00 := by decide +kernel
theorem q_undo : (bI (F_Main_undo M00) fun q1 => bI (F_Mod_undo q1.2) fun q2 => some (decide (q1.1 = q2.1))) = some true := by decide +kernel
theorem q_supper : (bI (F_Main_supper 12 M00) fun q1 => bI (F_Mod_supper q1.2) fun q2 => some (decide (q1.1 = q2.1))) = some true := by decide +kernel
theorem q_forget : (bI (F_Main_forget M00) fun q1 => bI (F_Mod_forget q1.2) fun q2 => some (decide (q1.1 = q2.1))) = some true := by decide +kernel
theorem q_blame : (bI (F_Main_blame 12 0 M00) fun q1 => bI (F_Mod_blame 0 q1.2) fun q2 => some (decide (q1.1 = q2.1))) = some true := by decide +kernel
theorem q_sure : (bI (F_Main_sure 12 0 M00) fun q1 => bI (F_Mod_sure 0 q1.2) fun q2 => some (decide (q1.1 = q2.1))) = some true := by decide +kernel
theorem q_back : (bI (F_Main_back 0 M00) fun q1 => bI (F_Mod_back 0 q1.2) fun q2 => some (decide (q1.1 = q2.1))) = some true := by decide +kernel
theorem q_hold : ∀ k : Nat, k < 3 → (bI (F_Main_hold (nI k) M00) fun q1 => bI (F_Mod_hold (nI k) q1.2) fun q2 => some (decide (q1.1 = q2.1))) = some true := by decide +kernel
theorem q_restore : ∀ k : Nat, k < 3 → (bI (F_Main_restore (nI k) M00) fun q1 => bI (F_Mod_restore (nI k) q1.2) fun q2 => some (decide (q1.1 = q2.1))) = some true := by decide +kernel
theorem q_count : ∀ k : Nat, k < 16 → (bI (F_Main_count 12 (nI k) M00) fun q1 => bI (F_Mod_count (nI k) M00) fun q2 => some (decide (q1 = q2))) = some true := by decide +kernel
theorem q_feed : (bI (F_Main_feed 1 2 3 4 5 M00) fun q1 => bI (F_Mod_feed 1 2 3 4 5 q1.2) fun q2 => some (decide (q1.1 = q2.1))) = some true := by decide +kernel
