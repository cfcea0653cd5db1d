/-! a fresh object -/
theorem e1_1 : M00 1 1 = 0 := by decide +kernel
theorem e12_0 : M00 12 0 = 0 := by decide +kernel
theorem e12_1 : M00 12 1 = 0 := by decide +kernel
theorem e12_2 : M00 12 2 = 0 := by decide +kernel
theorem e12_3 : M00 12 3 = 0 := by decide +kernel
theorem e401_18 : M00 401 18 = 0 := by decide +kernel
theorem e411 : M00 411 (0 : Int32).toNatClampNeg = 0 := by decide +kernel
theorem e415 : M00 415 (0 : Int32).toNatClampNeg = 0 := by decide +kernel
theorem e418 : M00 418 (0 : Int32).toNatClampNeg = 0 := by decide +kernel
theorem e420 : M00 420 (0 : Int32).toNatClampNeg = 0 := by decide +kernel
theorem isFood0 (a : Int32) : F_Mod_isFood a M00 = some 0 := by unfold F_Mod_isFood; rw [e401_18, if_neg (by decide), e411, in_e]; rfl
theorem isDish0 (a : Int32) : F_Mod_isDish a M00 = some 0 := by unfold F_Mod_isDish; rw [e401_18, if_neg (by decide), e415, in_e]; rfl
theorem isGuest0 (a : Int32) : F_Mod_isGuest a M00 = some 0 := by unfold F_Mod_isGuest; rw [e401_18, if_neg (by decide), e418, in_e]; rfl
theorem isDeed0 (a : Int32) : F_Mod_isDeed a M00 = some 0 := by unfold F_Mod_isDeed; rw [e401_18, if_neg (by decide), e420, in_e]; rfl
theorem fc_food (a b : Int32) : F_Main_food 12 a b M00 = some (-1) := by unfold F_Main_food; rw [e12_0, one_00]; rfl
theorem fm_food (a b : Int32) : F_Mod_food a b M00 = some (-1) := by unfold F_Mod_food; rw [isFood0]; rfl
theorem fc_dish (a b : Int32) : F_Main_dish 12 a b M00 = some (-1, M00) := by unfold F_Main_dish; rw [e12_1, one_00]; rfl
theorem fm_dish (a b : Int32) : F_Mod_dish a b M00 = some (-1, M00) := by unfold F_Mod_dish; rw [isDish0]; rfl
theorem fc_amount (a b : Int32) : F_Main_amount 12 a b M00 = some (-1) := by unfold F_Main_amount; rw [e12_1, one_00]; rfl
theorem fm_amount (a b : Int32) : F_Mod_amount a b M00 = some (-1) := by unfold F_Mod_amount; rw [isDish0]; rfl
theorem fc_guest (a b : Int32) : F_Main_guest 12 a b M00 = some (-1, M00) := by unfold F_Main_guest; rw [e12_2, one_00]; rfl
theorem fm_guest (a b : Int32) : F_Mod_guest a b M00 = some (-1, M00) := by unfold F_Mod_guest; rw [isGuest0]; rfl
theorem fc_deed (a b : Int32) : F_Main_deed 12 a b M00 = some (-1, M00) := by unfold F_Main_deed; rw [e12_3, one_00]; rfl
theorem fm_deed (a b : Int32) : F_Mod_deed a b M00 = some (-1, M00) := by unfold F_Mod_deed; rw [isDeed0]; rfl
theorem fc_cook (a : Int32) : F_Main_cook 12 a M00 = some (-1, M00) := by unfold F_Main_cook; rw [e12_1, one_00]; rfl
theorem fm_cook (a : Int32) : F_Mod_cook a M00 = some (-1, M00) := by unfold F_Mod_cook; rw [isDish0]; rfl
theorem fc_eat (a : Int32) : F_Main_eat 12 a M00 = some (-1, M00) := by unfold F_Main_eat; rw [e12_2, one_00]; rfl
theorem fm_eat (a : Int32) : F_Mod_eat a M00 = some (-1, M00) := by unfold F_Mod_eat; rw [isGuest0]; rfl
theorem fc_pinch (a b : Int32) : F_Main_pinch 12 a b M00 = some (-1, M00) := by unfold F_Main_pinch; rw [e12_1, one_00]; rfl
theorem fm_pinch (a b : Int32) : F_Mod_pinch a b M00 = some (-1, M00) := by unfold F_Mod_pinch; rw [isDish0]; rfl
theorem fc_freest (a b : Int32) : F_Main_freest 12 a b M00 = some (-1, M00) := by unfold F_Main_freest; rw [e12_2, one_00]; rfl
theorem fm_freest (a b : Int32) : F_Mod_freest a b M00 = some (-1, M00) := by unfold F_Mod_freest; rw [isGuest0]; rfl
theorem fc_feud (a b c : Int32) : F_Main_feud 12 a b c M00 = some (-1, M00) := by unfold F_Main_feud; rw [e12_2, one_00]; rfl
theorem fm_feud (a b c : Int32) : F_Mod_feud a b c M00 = some (-1, M00) := by unfold F_Mod_feud; rw [isGuest0]; rfl
theorem fc_menu (a b c d : Int32) : F_Main_menu 12 a b c d M00 = some (-1, M00) := by unfold F_Main_menu; rw [e12_2, one_00]; rfl
theorem fm_menu (a b c d : Int32) : F_Mod_menu a b c d M00 = some (-1, M00) := by unfold F_Mod_menu; rw [isGuest0]; rfl
theorem fc_often (a : Int32) : F_Main_often 12 a M00 = some (-1, M00) := by unfold F_Main_often; rw [e12_1, one_00]; rfl
theorem fm_often (a : Int32) : F_Mod_often a M00 = some (-1, M00) := by unfold F_Mod_often; rw [isDish0]; rfl
theorem fc_hunger (a b : Int32) : F_Main_hunger 12 a b M00 = some (-1, M00) := by unfold F_Main_hunger; rw [e12_2, one_00]; rfl
theorem fm_hunger (a b : Int32) : F_Mod_hunger a b M00 = some (-1, M00) := by unfold F_Mod_hunger; rw [isGuest0]; rfl
theorem fc_stockIn (a b : Int32) : F_Main_stockIn 12 a b M00 = some (-1, M00) := by unfold F_Main_stockIn; rw [e12_0, one_00]; rfl
theorem fm_stockIn (a b : Int32) : F_Mod_stockIn a b M00 = some (-1, M00) := by unfold F_Mod_stockIn; rw [isFood0]; rfl
theorem fc_boundIn (a b c : Int32) : F_Main_boundIn 12 a b c M00 = some (-1, M00) := by unfold F_Main_boundIn; rw [e12_2, one_00]; rfl
theorem fm_boundIn (a b c : Int32) : F_Mod_boundIn a b c M00 = some (-1, M00) := by unfold F_Mod_boundIn; rw [isGuest0]; rfl
theorem fc_year (a b c d : Int32) : F_Main_year 12 a b c d M00 = some (-1, M00) := by unfold F_Main_year; rw [e12_1, one_00]; rfl
theorem fm_year (a b c d : Int32) : F_Mod_year a b c d M00 = some (-1, M00) := by unfold F_Mod_year; rw [isDish0]; rfl
