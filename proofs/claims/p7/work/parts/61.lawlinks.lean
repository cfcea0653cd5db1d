set_option maxRecDepth 100000 in
theorem mk_Main_init : Cond.code y_Main_init.1 y_Main_init.2.1 y_Main_init.2.2.1 y_Main_init.2.2.2.1 ∈ gtb ∧ Cond.initialized y_Main_init.1.cls ∈ gtb ∧ y_Main_init.1.cls ≠ "java/lang/invoke/MethodHandle" ∧ y_Main_init.1.cls ≠ "java/lang/invoke/VarHandle" ∧ (parseMethodDescriptor y_Main_init.1.desc).map (fun d => d.parameters.length) = some 0 := ⟨(gk_1 (List.mem_of_getElem? (i := 24) rfl) rfl), cz_Main, cx_Main.1, cx_Main.2, by decide +kernel⟩
set_option maxRecDepth 100000 in
theorem mi_Main_init : Cond.instanceMethod y_Main_init.1 ∈ gtb := (gk_1 (List.mem_of_getElem? (i := 23) rfl) rfl)
set_option maxRecDepth 100000 in
theorem mo_Law0_9 : mOk R_law 9 0 y_Main_init := ⟨Or.inl (gk_1 (List.mem_of_getElem? (i := 22) rfl) rfl), mk_Main_init⟩
set_option maxRecDepth 100000 in
theorem mk_Mod_init : Cond.code y_Mod_init.1 y_Mod_init.2.1 y_Mod_init.2.2.1 y_Mod_init.2.2.2.1 ∈ gtb ∧ Cond.initialized y_Mod_init.1.cls ∈ gtb ∧ y_Mod_init.1.cls ≠ "java/lang/invoke/MethodHandle" ∧ y_Mod_init.1.cls ≠ "java/lang/invoke/VarHandle" ∧ (parseMethodDescriptor y_Mod_init.1.desc).map (fun d => d.parameters.length) = some 0 := ⟨(gk_5 (List.mem_of_getElem? (i := 183) rfl) rfl), cz_Mod, cx_Mod.1, cx_Mod.2, by decide +kernel⟩
set_option maxRecDepth 100000 in
theorem mi_Mod_init : Cond.instanceMethod y_Mod_init.1 ∈ gtb := (gk_5 (List.mem_of_getElem? (i := 182) rfl) rfl)
set_option maxRecDepth 100000 in
theorem mo_Law0_12 : mOk R_law 12 0 y_Mod_init := ⟨Or.inl (gk_5 (List.mem_of_getElem? (i := 181) rfl) rfl), mk_Mod_init⟩
set_option maxRecDepth 100000 in
theorem mk_Main_feed : Cond.code y_Main_feed.1 y_Main_feed.2.1 y_Main_feed.2.2.1 y_Main_feed.2.2.2.1 ∈ gtb ∧ Cond.initialized y_Main_feed.1.cls ∈ gtb ∧ y_Main_feed.1.cls ≠ "java/lang/invoke/MethodHandle" ∧ y_Main_feed.1.cls ≠ "java/lang/invoke/VarHandle" ∧ (parseMethodDescriptor y_Main_feed.1.desc).map (fun d => d.parameters.length) = some 5 := ⟨(gk_3 (List.mem_of_getElem? (i := 25) rfl) rfl), cz_Main, cx_Main.1, cx_Main.2, by decide +kernel⟩
set_option maxRecDepth 100000 in
theorem mi_Main_feed : Cond.instanceMethod y_Main_feed.1 ∈ gtb := (gk_3 (List.mem_of_getElem? (i := 23) rfl) rfl)
set_option maxRecDepth 100000 in
theorem mv_Main_feed : Cond.selects y_Main_feed.1.cls y_Main_feed.1 y_Main_feed.1 ∈ gtb := (gk_3 (List.mem_of_getElem? (i := 24) rfl) rfl)
set_option maxRecDepth 100000 in
theorem mo_Law0_13 : mOk R_law 13 5 y_Main_feed := ⟨Or.inl (gk_3 (List.mem_of_getElem? (i := 22) rfl) rfl), mk_Main_feed⟩
set_option maxRecDepth 100000 in
theorem mk_Mod_feed : Cond.code y_Mod_feed.1 y_Mod_feed.2.1 y_Mod_feed.2.2.1 y_Mod_feed.2.2.2.1 ∈ gtb ∧ Cond.initialized y_Mod_feed.1.cls ∈ gtb ∧ y_Mod_feed.1.cls ≠ "java/lang/invoke/MethodHandle" ∧ y_Mod_feed.1.cls ≠ "java/lang/invoke/VarHandle" ∧ (parseMethodDescriptor y_Mod_feed.1.desc).map (fun d => d.parameters.length) = some 5 := ⟨(gk_6 (List.mem_of_getElem? (i := 180) rfl) rfl), cz_Mod, cx_Mod.1, cx_Mod.2, by decide +kernel⟩
set_option maxRecDepth 100000 in
theorem mi_Mod_feed : Cond.instanceMethod y_Mod_feed.1 ∈ gtb := (gk_6 (List.mem_of_getElem? (i := 178) rfl) rfl)
set_option maxRecDepth 100000 in
theorem mv_Mod_feed : Cond.selects y_Mod_feed.1.cls y_Mod_feed.1 y_Mod_feed.1 ∈ gtb := (gk_6 (List.mem_of_getElem? (i := 179) rfl) rfl)
set_option maxRecDepth 100000 in
theorem mo_Law0_17 : mOk R_law 17 5 y_Mod_feed := ⟨Or.inl (gk_6 (List.mem_of_getElem? (i := 177) rfl) rfl), mk_Mod_feed⟩
set_option maxRecDepth 100000 in
theorem mk_Main_back : Cond.code y_Main_back.1 y_Main_back.2.1 y_Main_back.2.2.1 y_Main_back.2.2.2.1 ∈ gtb ∧ Cond.initialized y_Main_back.1.cls ∈ gtb ∧ y_Main_back.1.cls ≠ "java/lang/invoke/MethodHandle" ∧ y_Main_back.1.cls ≠ "java/lang/invoke/VarHandle" ∧ (parseMethodDescriptor y_Main_back.1.desc).map (fun d => d.parameters.length) = some 1 := ⟨(gk_3 (List.mem_of_getElem? (i := 36) rfl) rfl), cz_Main, cx_Main.1, cx_Main.2, by decide +kernel⟩
set_option maxRecDepth 100000 in
theorem mi_Main_back : Cond.instanceMethod y_Main_back.1 ∈ gtb := (gk_3 (List.mem_of_getElem? (i := 34) rfl) rfl)
set_option maxRecDepth 100000 in
theorem mv_Main_back : Cond.selects y_Main_back.1.cls y_Main_back.1 y_Main_back.1 ∈ gtb := (gk_3 (List.mem_of_getElem? (i := 35) rfl) rfl)
set_option maxRecDepth 100000 in
theorem mo_Law0_18 : mOk R_law 18 1 y_Main_back := ⟨Or.inl (gk_3 (List.mem_of_getElem? (i := 33) rfl) rfl), mk_Main_back⟩
set_option maxRecDepth 100000 in
theorem mk_Mod_back : Cond.code y_Mod_back.1 y_Mod_back.2.1 y_Mod_back.2.2.1 y_Mod_back.2.2.2.1 ∈ gtb ∧ Cond.initialized y_Mod_back.1.cls ∈ gtb ∧ y_Mod_back.1.cls ≠ "java/lang/invoke/MethodHandle" ∧ y_Mod_back.1.cls ≠ "java/lang/invoke/VarHandle" ∧ (parseMethodDescriptor y_Mod_back.1.desc).map (fun d => d.parameters.length) = some 1 := ⟨(gk_6 (List.mem_of_getElem? (i := 188) rfl) rfl), cz_Mod, cx_Mod.1, cx_Mod.2, by decide +kernel⟩
set_option maxRecDepth 100000 in
theorem mi_Mod_back : Cond.instanceMethod y_Mod_back.1 ∈ gtb := (gk_6 (List.mem_of_getElem? (i := 186) rfl) rfl)
set_option maxRecDepth 100000 in
theorem mv_Mod_back : Cond.selects y_Mod_back.1.cls y_Mod_back.1 y_Mod_back.1 ∈ gtb := (gk_6 (List.mem_of_getElem? (i := 187) rfl) rfl)
set_option maxRecDepth 100000 in
theorem mo_Law0_22 : mOk R_law 22 1 y_Mod_back := ⟨Or.inl (gk_6 (List.mem_of_getElem? (i := 185) rfl) rfl), mk_Mod_back⟩
set_option maxRecDepth 100000 in
theorem mk_Main_read : Cond.code y_Main_read.1 y_Main_read.2.1 y_Main_read.2.2.1 y_Main_read.2.2.2.1 ∈ gtb ∧ Cond.initialized y_Main_read.1.cls ∈ gtb ∧ y_Main_read.1.cls ≠ "java/lang/invoke/MethodHandle" ∧ y_Main_read.1.cls ≠ "java/lang/invoke/VarHandle" ∧ (parseMethodDescriptor y_Main_read.1.desc).map (fun d => d.parameters.length) = some 0 := ⟨(gk_3 (List.mem_of_getElem? (i := 40) rfl) rfl), cz_Main, cx_Main.1, cx_Main.2, by decide +kernel⟩
set_option maxRecDepth 100000 in
theorem mi_Main_read : Cond.instanceMethod y_Main_read.1 ∈ gtb := (gk_3 (List.mem_of_getElem? (i := 38) rfl) rfl)
set_option maxRecDepth 100000 in
theorem mv_Main_read : Cond.selects y_Main_read.1.cls y_Main_read.1 y_Main_read.1 ∈ gtb := (gk_3 (List.mem_of_getElem? (i := 39) rfl) rfl)
set_option maxRecDepth 100000 in
theorem mo_Law0_23 : mOk R_law 23 0 y_Main_read := ⟨Or.inl (gk_3 (List.mem_of_getElem? (i := 37) rfl) rfl), mk_Main_read⟩
set_option maxRecDepth 100000 in
theorem mk_Mod_read : Cond.code y_Mod_read.1 y_Mod_read.2.1 y_Mod_read.2.2.1 y_Mod_read.2.2.2.1 ∈ gtb ∧ Cond.initialized y_Mod_read.1.cls ∈ gtb ∧ y_Mod_read.1.cls ≠ "java/lang/invoke/MethodHandle" ∧ y_Mod_read.1.cls ≠ "java/lang/invoke/VarHandle" ∧ (parseMethodDescriptor y_Mod_read.1.desc).map (fun d => d.parameters.length) = some 0 := ⟨(gk_6 (List.mem_of_getElem? (i := 192) rfl) rfl), cz_Mod, cx_Mod.1, cx_Mod.2, by decide +kernel⟩
set_option maxRecDepth 100000 in
theorem mi_Mod_read : Cond.instanceMethod y_Mod_read.1 ∈ gtb := (gk_6 (List.mem_of_getElem? (i := 190) rfl) rfl)
set_option maxRecDepth 100000 in
theorem mv_Mod_read : Cond.selects y_Mod_read.1.cls y_Mod_read.1 y_Mod_read.1 ∈ gtb := (gk_6 (List.mem_of_getElem? (i := 191) rfl) rfl)
set_option maxRecDepth 100000 in
theorem mo_Law0_27 : mOk R_law 27 0 y_Mod_read := ⟨Or.inl (gk_6 (List.mem_of_getElem? (i := 189) rfl) rfl), mk_Mod_read⟩
set_option maxRecDepth 100000 in
theorem mk_Main_place : Cond.code y_Main_place.1 y_Main_place.2.1 y_Main_place.2.2.1 y_Main_place.2.2.2.1 ∈ gtb ∧ Cond.initialized y_Main_place.1.cls ∈ gtb ∧ y_Main_place.1.cls ≠ "java/lang/invoke/MethodHandle" ∧ y_Main_place.1.cls ≠ "java/lang/invoke/VarHandle" ∧ (parseMethodDescriptor y_Main_place.1.desc).map (fun d => d.parameters.length) = some 0 := ⟨(gk_4 (List.mem_of_getElem? (i := 3) rfl) rfl), cz_Main, cx_Main.1, cx_Main.2, by decide +kernel⟩
set_option maxRecDepth 100000 in
theorem mi_Main_place : Cond.instanceMethod y_Main_place.1 ∈ gtb := (gk_4 (List.mem_of_getElem? (i := 1) rfl) rfl)
set_option maxRecDepth 100000 in
theorem mv_Main_place : Cond.selects y_Main_place.1.cls y_Main_place.1 y_Main_place.1 ∈ gtb := (gk_4 (List.mem_of_getElem? (i := 2) rfl) rfl)
set_option maxRecDepth 100000 in
theorem mo_Law0_28 : mOk R_law 28 0 y_Main_place := ⟨Or.inl (gk_4 (List.mem_of_getElem? (i := 0) rfl) rfl), mk_Main_place⟩
set_option maxRecDepth 100000 in
theorem mk_Mod_place : Cond.code y_Mod_place.1 y_Mod_place.2.1 y_Mod_place.2.2.1 y_Mod_place.2.2.2.1 ∈ gtb ∧ Cond.initialized y_Mod_place.1.cls ∈ gtb ∧ y_Mod_place.1.cls ≠ "java/lang/invoke/MethodHandle" ∧ y_Mod_place.1.cls ≠ "java/lang/invoke/VarHandle" ∧ (parseMethodDescriptor y_Mod_place.1.desc).map (fun d => d.parameters.length) = some 0 := ⟨(gk_7 (List.mem_of_getElem? (i := 54) rfl) rfl), cz_Mod, cx_Mod.1, cx_Mod.2, by decide +kernel⟩
set_option maxRecDepth 100000 in
theorem mi_Mod_place : Cond.instanceMethod y_Mod_place.1 ∈ gtb := (gk_7 (List.mem_of_getElem? (i := 52) rfl) rfl)
set_option maxRecDepth 100000 in
theorem mv_Mod_place : Cond.selects y_Mod_place.1.cls y_Mod_place.1 y_Mod_place.1 ∈ gtb := (gk_7 (List.mem_of_getElem? (i := 53) rfl) rfl)
set_option maxRecDepth 100000 in
theorem mo_Law0_31 : mOk R_law 31 0 y_Mod_place := ⟨Or.inl (gk_7 (List.mem_of_getElem? (i := 51) rfl) rfl), mk_Mod_place⟩
set_option maxRecDepth 100000 in
theorem mk_Main_food : Cond.code y_Main_food.1 y_Main_food.2.1 y_Main_food.2.2.1 y_Main_food.2.2.2.1 ∈ gtb ∧ Cond.initialized y_Main_food.1.cls ∈ gtb ∧ y_Main_food.1.cls ≠ "java/lang/invoke/MethodHandle" ∧ y_Main_food.1.cls ≠ "java/lang/invoke/VarHandle" ∧ (parseMethodDescriptor y_Main_food.1.desc).map (fun d => d.parameters.length) = some 2 := ⟨(gk_4 (List.mem_of_getElem? (i := 7) rfl) rfl), cz_Main, cx_Main.1, cx_Main.2, by decide +kernel⟩
set_option maxRecDepth 100000 in
theorem mi_Main_food : Cond.instanceMethod y_Main_food.1 ∈ gtb := (gk_4 (List.mem_of_getElem? (i := 5) rfl) rfl)
set_option maxRecDepth 100000 in
theorem mv_Main_food : Cond.selects y_Main_food.1.cls y_Main_food.1 y_Main_food.1 ∈ gtb := (gk_4 (List.mem_of_getElem? (i := 6) rfl) rfl)
set_option maxRecDepth 100000 in
theorem mo_Law0_32 : mOk R_law 32 2 y_Main_food := ⟨Or.inl (gk_4 (List.mem_of_getElem? (i := 4) rfl) rfl), mk_Main_food⟩
set_option maxRecDepth 100000 in
theorem mk_Mod_food : Cond.code y_Mod_food.1 y_Mod_food.2.1 y_Mod_food.2.2.1 y_Mod_food.2.2.2.1 ∈ gtb ∧ Cond.initialized y_Mod_food.1.cls ∈ gtb ∧ y_Mod_food.1.cls ≠ "java/lang/invoke/MethodHandle" ∧ y_Mod_food.1.cls ≠ "java/lang/invoke/VarHandle" ∧ (parseMethodDescriptor y_Mod_food.1.desc).map (fun d => d.parameters.length) = some 2 := ⟨(gk_7 (List.mem_of_getElem? (i := 58) rfl) rfl), cz_Mod, cx_Mod.1, cx_Mod.2, by decide +kernel⟩
set_option maxRecDepth 100000 in
theorem mi_Mod_food : Cond.instanceMethod y_Mod_food.1 ∈ gtb := (gk_7 (List.mem_of_getElem? (i := 56) rfl) rfl)
set_option maxRecDepth 100000 in
theorem mv_Mod_food : Cond.selects y_Mod_food.1.cls y_Mod_food.1 y_Mod_food.1 ∈ gtb := (gk_7 (List.mem_of_getElem? (i := 57) rfl) rfl)
set_option maxRecDepth 100000 in
theorem mo_Law0_36 : mOk R_law 36 2 y_Mod_food := ⟨Or.inl (gk_7 (List.mem_of_getElem? (i := 55) rfl) rfl), mk_Mod_food⟩
set_option maxRecDepth 100000 in
theorem mk_Main_dish : Cond.code y_Main_dish.1 y_Main_dish.2.1 y_Main_dish.2.2.1 y_Main_dish.2.2.2.1 ∈ gtb ∧ Cond.initialized y_Main_dish.1.cls ∈ gtb ∧ y_Main_dish.1.cls ≠ "java/lang/invoke/MethodHandle" ∧ y_Main_dish.1.cls ≠ "java/lang/invoke/VarHandle" ∧ (parseMethodDescriptor y_Main_dish.1.desc).map (fun d => d.parameters.length) = some 2 := ⟨(gk_4 (List.mem_of_getElem? (i := 17) rfl) rfl), cz_Main, cx_Main.1, cx_Main.2, by decide +kernel⟩
set_option maxRecDepth 100000 in
theorem mi_Main_dish : Cond.instanceMethod y_Main_dish.1 ∈ gtb := (gk_4 (List.mem_of_getElem? (i := 15) rfl) rfl)
set_option maxRecDepth 100000 in
theorem mv_Main_dish : Cond.selects y_Main_dish.1.cls y_Main_dish.1 y_Main_dish.1 ∈ gtb := (gk_4 (List.mem_of_getElem? (i := 16) rfl) rfl)
set_option maxRecDepth 100000 in
theorem mo_Law0_37 : mOk R_law 37 2 y_Main_dish := ⟨Or.inl (gk_4 (List.mem_of_getElem? (i := 14) rfl) rfl), mk_Main_dish⟩
set_option maxRecDepth 100000 in
theorem mk_Mod_dish : Cond.code y_Mod_dish.1 y_Mod_dish.2.1 y_Mod_dish.2.2.1 y_Mod_dish.2.2.2.1 ∈ gtb ∧ Cond.initialized y_Mod_dish.1.cls ∈ gtb ∧ y_Mod_dish.1.cls ≠ "java/lang/invoke/MethodHandle" ∧ y_Mod_dish.1.cls ≠ "java/lang/invoke/VarHandle" ∧ (parseMethodDescriptor y_Mod_dish.1.desc).map (fun d => d.parameters.length) = some 2 := ⟨(gk_7 (List.mem_of_getElem? (i := 69) rfl) rfl), cz_Mod, cx_Mod.1, cx_Mod.2, by decide +kernel⟩
set_option maxRecDepth 100000 in
theorem mi_Mod_dish : Cond.instanceMethod y_Mod_dish.1 ∈ gtb := (gk_7 (List.mem_of_getElem? (i := 67) rfl) rfl)
set_option maxRecDepth 100000 in
theorem mv_Mod_dish : Cond.selects y_Mod_dish.1.cls y_Mod_dish.1 y_Mod_dish.1 ∈ gtb := (gk_7 (List.mem_of_getElem? (i := 68) rfl) rfl)
set_option maxRecDepth 100000 in
theorem mo_Law0_40 : mOk R_law 40 2 y_Mod_dish := ⟨Or.inl (gk_7 (List.mem_of_getElem? (i := 66) rfl) rfl), mk_Mod_dish⟩
set_option maxRecDepth 100000 in
theorem mk_Main_amount : Cond.code y_Main_amount.1 y_Main_amount.2.1 y_Main_amount.2.2.1 y_Main_amount.2.2.2.1 ∈ gtb ∧ Cond.initialized y_Main_amount.1.cls ∈ gtb ∧ y_Main_amount.1.cls ≠ "java/lang/invoke/MethodHandle" ∧ y_Main_amount.1.cls ≠ "java/lang/invoke/VarHandle" ∧ (parseMethodDescriptor y_Main_amount.1.desc).map (fun d => d.parameters.length) = some 2 := ⟨(gk_4 (List.mem_of_getElem? (i := 69) rfl) rfl), cz_Main, cx_Main.1, cx_Main.2, by decide +kernel⟩
set_option maxRecDepth 100000 in
theorem mi_Main_amount : Cond.instanceMethod y_Main_amount.1 ∈ gtb := (gk_4 (List.mem_of_getElem? (i := 67) rfl) rfl)
set_option maxRecDepth 100000 in
theorem mv_Main_amount : Cond.selects y_Main_amount.1.cls y_Main_amount.1 y_Main_amount.1 ∈ gtb := (gk_4 (List.mem_of_getElem? (i := 68) rfl) rfl)
set_option maxRecDepth 100000 in
theorem mo_Law0_41 : mOk R_law 41 2 y_Main_amount := ⟨Or.inl (gk_4 (List.mem_of_getElem? (i := 66) rfl) rfl), mk_Main_amount⟩
set_option maxRecDepth 100000 in
theorem mk_Mod_amount : Cond.code y_Mod_amount.1 y_Mod_amount.2.1 y_Mod_amount.2.2.1 y_Mod_amount.2.2.2.1 ∈ gtb ∧ Cond.initialized y_Mod_amount.1.cls ∈ gtb ∧ y_Mod_amount.1.cls ≠ "java/lang/invoke/MethodHandle" ∧ y_Mod_amount.1.cls ≠ "java/lang/invoke/VarHandle" ∧ (parseMethodDescriptor y_Mod_amount.1.desc).map (fun d => d.parameters.length) = some 2 := ⟨(gk_7 (List.mem_of_getElem? (i := 116) rfl) rfl), cz_Mod, cx_Mod.1, cx_Mod.2, by decide +kernel⟩
set_option maxRecDepth 100000 in
theorem mi_Mod_amount : Cond.instanceMethod y_Mod_amount.1 ∈ gtb := (gk_7 (List.mem_of_getElem? (i := 114) rfl) rfl)
set_option maxRecDepth 100000 in
theorem mv_Mod_amount : Cond.selects y_Mod_amount.1.cls y_Mod_amount.1 y_Mod_amount.1 ∈ gtb := (gk_7 (List.mem_of_getElem? (i := 115) rfl) rfl)
set_option maxRecDepth 100000 in
theorem mo_Law0_44 : mOk R_law 44 2 y_Mod_amount := ⟨Or.inl (gk_7 (List.mem_of_getElem? (i := 113) rfl) rfl), mk_Mod_amount⟩
set_option maxRecDepth 100000 in
theorem mk_Main_guest : Cond.code y_Main_guest.1 y_Main_guest.2.1 y_Main_guest.2.2.1 y_Main_guest.2.2.2.1 ∈ gtb ∧ Cond.initialized y_Main_guest.1.cls ∈ gtb ∧ y_Main_guest.1.cls ≠ "java/lang/invoke/MethodHandle" ∧ y_Main_guest.1.cls ≠ "java/lang/invoke/VarHandle" ∧ (parseMethodDescriptor y_Main_guest.1.desc).map (fun d => d.parameters.length) = some 2 := ⟨(gk_4 (List.mem_of_getElem? (i := 74) rfl) rfl), cz_Main, cx_Main.1, cx_Main.2, by decide +kernel⟩
set_option maxRecDepth 100000 in
theorem mi_Main_guest : Cond.instanceMethod y_Main_guest.1 ∈ gtb := (gk_4 (List.mem_of_getElem? (i := 72) rfl) rfl)
set_option maxRecDepth 100000 in
theorem mv_Main_guest : Cond.selects y_Main_guest.1.cls y_Main_guest.1 y_Main_guest.1 ∈ gtb := (gk_4 (List.mem_of_getElem? (i := 73) rfl) rfl)
set_option maxRecDepth 100000 in
theorem mo_Law0_45 : mOk R_law 45 2 y_Main_guest := ⟨Or.inl (gk_4 (List.mem_of_getElem? (i := 71) rfl) rfl), mk_Main_guest⟩
set_option maxRecDepth 100000 in
theorem mk_Mod_guest : Cond.code y_Mod_guest.1 y_Mod_guest.2.1 y_Mod_guest.2.2.1 y_Mod_guest.2.2.2.1 ∈ gtb ∧ Cond.initialized y_Mod_guest.1.cls ∈ gtb ∧ y_Mod_guest.1.cls ≠ "java/lang/invoke/MethodHandle" ∧ y_Mod_guest.1.cls ≠ "java/lang/invoke/VarHandle" ∧ (parseMethodDescriptor y_Mod_guest.1.desc).map (fun d => d.parameters.length) = some 2 := ⟨(gk_7 (List.mem_of_getElem? (i := 120) rfl) rfl), cz_Mod, cx_Mod.1, cx_Mod.2, by decide +kernel⟩
set_option maxRecDepth 100000 in
theorem mi_Mod_guest : Cond.instanceMethod y_Mod_guest.1 ∈ gtb := (gk_7 (List.mem_of_getElem? (i := 118) rfl) rfl)
set_option maxRecDepth 100000 in
theorem mv_Mod_guest : Cond.selects y_Mod_guest.1.cls y_Mod_guest.1 y_Mod_guest.1 ∈ gtb := (gk_7 (List.mem_of_getElem? (i := 119) rfl) rfl)
set_option maxRecDepth 100000 in
theorem mo_Law0_48 : mOk R_law 48 2 y_Mod_guest := ⟨Or.inl (gk_7 (List.mem_of_getElem? (i := 117) rfl) rfl), mk_Mod_guest⟩
set_option maxRecDepth 100000 in
theorem mk_Main_deed : Cond.code y_Main_deed.1 y_Main_deed.2.1 y_Main_deed.2.2.1 y_Main_deed.2.2.2.1 ∈ gtb ∧ Cond.initialized y_Main_deed.1.cls ∈ gtb ∧ y_Main_deed.1.cls ≠ "java/lang/invoke/MethodHandle" ∧ y_Main_deed.1.cls ≠ "java/lang/invoke/VarHandle" ∧ (parseMethodDescriptor y_Main_deed.1.desc).map (fun d => d.parameters.length) = some 2 := ⟨(gk_4 (List.mem_of_getElem? (i := 96) rfl) rfl), cz_Main, cx_Main.1, cx_Main.2, by decide +kernel⟩
set_option maxRecDepth 100000 in
theorem mi_Main_deed : Cond.instanceMethod y_Main_deed.1 ∈ gtb := (gk_4 (List.mem_of_getElem? (i := 94) rfl) rfl)
set_option maxRecDepth 100000 in
theorem mv_Main_deed : Cond.selects y_Main_deed.1.cls y_Main_deed.1 y_Main_deed.1 ∈ gtb := (gk_4 (List.mem_of_getElem? (i := 95) rfl) rfl)
set_option maxRecDepth 100000 in
theorem mo_Law0_49 : mOk R_law 49 2 y_Main_deed := ⟨Or.inl (gk_4 (List.mem_of_getElem? (i := 93) rfl) rfl), mk_Main_deed⟩
set_option maxRecDepth 100000 in
theorem mk_Mod_deed : Cond.code y_Mod_deed.1 y_Mod_deed.2.1 y_Mod_deed.2.2.1 y_Mod_deed.2.2.2.1 ∈ gtb ∧ Cond.initialized y_Mod_deed.1.cls ∈ gtb ∧ y_Mod_deed.1.cls ≠ "java/lang/invoke/MethodHandle" ∧ y_Mod_deed.1.cls ≠ "java/lang/invoke/VarHandle" ∧ (parseMethodDescriptor y_Mod_deed.1.desc).map (fun d => d.parameters.length) = some 2 := ⟨(gk_7 (List.mem_of_getElem? (i := 136) rfl) rfl), cz_Mod, cx_Mod.1, cx_Mod.2, by decide +kernel⟩
set_option maxRecDepth 100000 in
theorem mi_Mod_deed : Cond.instanceMethod y_Mod_deed.1 ∈ gtb := (gk_7 (List.mem_of_getElem? (i := 134) rfl) rfl)
set_option maxRecDepth 100000 in
theorem mv_Mod_deed : Cond.selects y_Mod_deed.1.cls y_Mod_deed.1 y_Mod_deed.1 ∈ gtb := (gk_7 (List.mem_of_getElem? (i := 135) rfl) rfl)
set_option maxRecDepth 100000 in
theorem mo_Law0_52 : mOk R_law 52 2 y_Mod_deed := ⟨Or.inl (gk_7 (List.mem_of_getElem? (i := 133) rfl) rfl), mk_Mod_deed⟩
set_option maxRecDepth 100000 in
theorem mk_Main_cook : Cond.code y_Main_cook.1 y_Main_cook.2.1 y_Main_cook.2.2.1 y_Main_cook.2.2.2.1 ∈ gtb ∧ Cond.initialized y_Main_cook.1.cls ∈ gtb ∧ y_Main_cook.1.cls ≠ "java/lang/invoke/MethodHandle" ∧ y_Main_cook.1.cls ≠ "java/lang/invoke/VarHandle" ∧ (parseMethodDescriptor y_Main_cook.1.desc).map (fun d => d.parameters.length) = some 1 := ⟨(gk_4 (List.mem_of_getElem? (i := 116) rfl) rfl), cz_Main, cx_Main.1, cx_Main.2, by decide +kernel⟩
set_option maxRecDepth 100000 in
theorem mi_Main_cook : Cond.instanceMethod y_Main_cook.1 ∈ gtb := (gk_4 (List.mem_of_getElem? (i := 114) rfl) rfl)
set_option maxRecDepth 100000 in
theorem mv_Main_cook : Cond.selects y_Main_cook.1.cls y_Main_cook.1 y_Main_cook.1 ∈ gtb := (gk_4 (List.mem_of_getElem? (i := 115) rfl) rfl)
set_option maxRecDepth 100000 in
theorem mo_Law0_53 : mOk R_law 53 1 y_Main_cook := ⟨Or.inl (gk_4 (List.mem_of_getElem? (i := 113) rfl) rfl), mk_Main_cook⟩
set_option maxRecDepth 100000 in
theorem mk_Mod_cook : Cond.code y_Mod_cook.1 y_Mod_cook.2.1 y_Mod_cook.2.2.1 y_Mod_cook.2.2.2.1 ∈ gtb ∧ Cond.initialized y_Mod_cook.1.cls ∈ gtb ∧ y_Mod_cook.1.cls ≠ "java/lang/invoke/MethodHandle" ∧ y_Mod_cook.1.cls ≠ "java/lang/invoke/VarHandle" ∧ (parseMethodDescriptor y_Mod_cook.1.desc).map (fun d => d.parameters.length) = some 1 := ⟨(gk_7 (List.mem_of_getElem? (i := 148) rfl) rfl), cz_Mod, cx_Mod.1, cx_Mod.2, by decide +kernel⟩
set_option maxRecDepth 100000 in
theorem mi_Mod_cook : Cond.instanceMethod y_Mod_cook.1 ∈ gtb := (gk_7 (List.mem_of_getElem? (i := 146) rfl) rfl)
set_option maxRecDepth 100000 in
theorem mv_Mod_cook : Cond.selects y_Mod_cook.1.cls y_Mod_cook.1 y_Mod_cook.1 ∈ gtb := (gk_7 (List.mem_of_getElem? (i := 147) rfl) rfl)
set_option maxRecDepth 100000 in
theorem mo_Law0_56 : mOk R_law 56 1 y_Mod_cook := ⟨Or.inl (gk_7 (List.mem_of_getElem? (i := 145) rfl) rfl), mk_Mod_cook⟩
set_option maxRecDepth 100000 in
theorem mk_Main_eat : Cond.code y_Main_eat.1 y_Main_eat.2.1 y_Main_eat.2.2.1 y_Main_eat.2.2.2.1 ∈ gtb ∧ Cond.initialized y_Main_eat.1.cls ∈ gtb ∧ y_Main_eat.1.cls ≠ "java/lang/invoke/MethodHandle" ∧ y_Main_eat.1.cls ≠ "java/lang/invoke/VarHandle" ∧ (parseMethodDescriptor y_Main_eat.1.desc).map (fun d => d.parameters.length) = some 1 := ⟨(gk_4 (List.mem_of_getElem? (i := 158) rfl) rfl), cz_Main, cx_Main.1, cx_Main.2, by decide +kernel⟩
set_option maxRecDepth 100000 in
theorem mi_Main_eat : Cond.instanceMethod y_Main_eat.1 ∈ gtb := (gk_4 (List.mem_of_getElem? (i := 156) rfl) rfl)
set_option maxRecDepth 100000 in
theorem mv_Main_eat : Cond.selects y_Main_eat.1.cls y_Main_eat.1 y_Main_eat.1 ∈ gtb := (gk_4 (List.mem_of_getElem? (i := 157) rfl) rfl)
set_option maxRecDepth 100000 in
theorem mo_Law0_57 : mOk R_law 57 1 y_Main_eat := ⟨Or.inl (gk_4 (List.mem_of_getElem? (i := 155) rfl) rfl), mk_Main_eat⟩
set_option maxRecDepth 100000 in
theorem mk_Mod_eat : Cond.code y_Mod_eat.1 y_Mod_eat.2.1 y_Mod_eat.2.2.1 y_Mod_eat.2.2.2.1 ∈ gtb ∧ Cond.initialized y_Mod_eat.1.cls ∈ gtb ∧ y_Mod_eat.1.cls ≠ "java/lang/invoke/MethodHandle" ∧ y_Mod_eat.1.cls ≠ "java/lang/invoke/VarHandle" ∧ (parseMethodDescriptor y_Mod_eat.1.desc).map (fun d => d.parameters.length) = some 1 := ⟨(gk_7 (List.mem_of_getElem? (i := 172) rfl) rfl), cz_Mod, cx_Mod.1, cx_Mod.2, by decide +kernel⟩
set_option maxRecDepth 100000 in
theorem mi_Mod_eat : Cond.instanceMethod y_Mod_eat.1 ∈ gtb := (gk_7 (List.mem_of_getElem? (i := 170) rfl) rfl)
set_option maxRecDepth 100000 in
theorem mv_Mod_eat : Cond.selects y_Mod_eat.1.cls y_Mod_eat.1 y_Mod_eat.1 ∈ gtb := (gk_7 (List.mem_of_getElem? (i := 171) rfl) rfl)
set_option maxRecDepth 100000 in
theorem mo_Law0_60 : mOk R_law 60 1 y_Mod_eat := ⟨Or.inl (gk_7 (List.mem_of_getElem? (i := 169) rfl) rfl), mk_Mod_eat⟩
set_option maxRecDepth 100000 in
theorem mk_Main_days : Cond.code y_Main_days.1 y_Main_days.2.1 y_Main_days.2.2.1 y_Main_days.2.2.2.1 ∈ gtb ∧ Cond.initialized y_Main_days.1.cls ∈ gtb ∧ y_Main_days.1.cls ≠ "java/lang/invoke/MethodHandle" ∧ y_Main_days.1.cls ≠ "java/lang/invoke/VarHandle" ∧ (parseMethodDescriptor y_Main_days.1.desc).map (fun d => d.parameters.length) = some 1 := ⟨(gk_4 (List.mem_of_getElem? (i := 166) rfl) rfl), cz_Main, cx_Main.1, cx_Main.2, by decide +kernel⟩
set_option maxRecDepth 100000 in
theorem mi_Main_days : Cond.instanceMethod y_Main_days.1 ∈ gtb := (gk_4 (List.mem_of_getElem? (i := 164) rfl) rfl)
set_option maxRecDepth 100000 in
theorem mv_Main_days : Cond.selects y_Main_days.1.cls y_Main_days.1 y_Main_days.1 ∈ gtb := (gk_4 (List.mem_of_getElem? (i := 165) rfl) rfl)
set_option maxRecDepth 100000 in
theorem mo_Law0_61 : mOk R_law 61 1 y_Main_days := ⟨Or.inl (gk_4 (List.mem_of_getElem? (i := 163) rfl) rfl), mk_Main_days⟩
set_option maxRecDepth 100000 in
theorem mk_Mod_days : Cond.code y_Mod_days.1 y_Mod_days.2.1 y_Mod_days.2.2.1 y_Mod_days.2.2.2.1 ∈ gtb ∧ Cond.initialized y_Mod_days.1.cls ∈ gtb ∧ y_Mod_days.1.cls ≠ "java/lang/invoke/MethodHandle" ∧ y_Mod_days.1.cls ≠ "java/lang/invoke/VarHandle" ∧ (parseMethodDescriptor y_Mod_days.1.desc).map (fun d => d.parameters.length) = some 1 := ⟨(gk_7 (List.mem_of_getElem? (i := 180) rfl) rfl), cz_Mod, cx_Mod.1, cx_Mod.2, by decide +kernel⟩
set_option maxRecDepth 100000 in
theorem mi_Mod_days : Cond.instanceMethod y_Mod_days.1 ∈ gtb := (gk_7 (List.mem_of_getElem? (i := 178) rfl) rfl)
set_option maxRecDepth 100000 in
theorem mv_Mod_days : Cond.selects y_Mod_days.1.cls y_Mod_days.1 y_Mod_days.1 ∈ gtb := (gk_7 (List.mem_of_getElem? (i := 179) rfl) rfl)
set_option maxRecDepth 100000 in
theorem mo_Law0_64 : mOk R_law 64 1 y_Mod_days := ⟨Or.inl (gk_7 (List.mem_of_getElem? (i := 177) rfl) rfl), mk_Mod_days⟩
set_option maxRecDepth 100000 in
theorem mk_Main_undo : Cond.code y_Main_undo.1 y_Main_undo.2.1 y_Main_undo.2.2.1 y_Main_undo.2.2.2.1 ∈ gtb ∧ Cond.initialized y_Main_undo.1.cls ∈ gtb ∧ y_Main_undo.1.cls ≠ "java/lang/invoke/MethodHandle" ∧ y_Main_undo.1.cls ≠ "java/lang/invoke/VarHandle" ∧ (parseMethodDescriptor y_Main_undo.1.desc).map (fun d => d.parameters.length) = some 0 := ⟨(gk_4 (List.mem_of_getElem? (i := 179) rfl) rfl), cz_Main, cx_Main.1, cx_Main.2, by decide +kernel⟩
set_option maxRecDepth 100000 in
theorem mi_Main_undo : Cond.instanceMethod y_Main_undo.1 ∈ gtb := (gk_4 (List.mem_of_getElem? (i := 177) rfl) rfl)
set_option maxRecDepth 100000 in
theorem mv_Main_undo : Cond.selects y_Main_undo.1.cls y_Main_undo.1 y_Main_undo.1 ∈ gtb := (gk_4 (List.mem_of_getElem? (i := 178) rfl) rfl)
set_option maxRecDepth 100000 in
theorem mo_Law0_65 : mOk R_law 65 0 y_Main_undo := ⟨Or.inl (gk_4 (List.mem_of_getElem? (i := 176) rfl) rfl), mk_Main_undo⟩
set_option maxRecDepth 100000 in
theorem mk_Mod_undo : Cond.code y_Mod_undo.1 y_Mod_undo.2.1 y_Mod_undo.2.2.1 y_Mod_undo.2.2.2.1 ∈ gtb ∧ Cond.initialized y_Mod_undo.1.cls ∈ gtb ∧ y_Mod_undo.1.cls ≠ "java/lang/invoke/MethodHandle" ∧ y_Mod_undo.1.cls ≠ "java/lang/invoke/VarHandle" ∧ (parseMethodDescriptor y_Mod_undo.1.desc).map (fun d => d.parameters.length) = some 0 := ⟨(gk_7 (List.mem_of_getElem? (i := 192) rfl) rfl), cz_Mod, cx_Mod.1, cx_Mod.2, by decide +kernel⟩
set_option maxRecDepth 100000 in
theorem mi_Mod_undo : Cond.instanceMethod y_Mod_undo.1 ∈ gtb := (gk_7 (List.mem_of_getElem? (i := 190) rfl) rfl)
set_option maxRecDepth 100000 in
theorem mv_Mod_undo : Cond.selects y_Mod_undo.1.cls y_Mod_undo.1 y_Mod_undo.1 ∈ gtb := (gk_7 (List.mem_of_getElem? (i := 191) rfl) rfl)
set_option maxRecDepth 100000 in
theorem mo_Law0_69 : mOk R_law 69 0 y_Mod_undo := ⟨Or.inl (gk_7 (List.mem_of_getElem? (i := 189) rfl) rfl), mk_Mod_undo⟩
set_option maxRecDepth 100000 in
theorem mk_Main_pot : Cond.code y_Main_pot.1 y_Main_pot.2.1 y_Main_pot.2.2.1 y_Main_pot.2.2.2.1 ∈ gtb ∧ Cond.initialized y_Main_pot.1.cls ∈ gtb ∧ y_Main_pot.1.cls ≠ "java/lang/invoke/MethodHandle" ∧ y_Main_pot.1.cls ≠ "java/lang/invoke/VarHandle" ∧ (parseMethodDescriptor y_Main_pot.1.desc).map (fun d => d.parameters.length) = some 4 := ⟨(gk_4 (List.mem_of_getElem? (i := 187) rfl) rfl), cz_Main, cx_Main.1, cx_Main.2, by decide +kernel⟩
set_option maxRecDepth 100000 in
theorem mi_Main_pot : Cond.instanceMethod y_Main_pot.1 ∈ gtb := (gk_4 (List.mem_of_getElem? (i := 185) rfl) rfl)
set_option maxRecDepth 100000 in
theorem mv_Main_pot : Cond.selects y_Main_pot.1.cls y_Main_pot.1 y_Main_pot.1 ∈ gtb := (gk_4 (List.mem_of_getElem? (i := 186) rfl) rfl)
set_option maxRecDepth 100000 in
theorem mo_Law0_70 : mOk R_law 70 4 y_Main_pot := ⟨Or.inl (gk_4 (List.mem_of_getElem? (i := 184) rfl) rfl), mk_Main_pot⟩
set_option maxRecDepth 100000 in
theorem mk_Mod_pot : Cond.code y_Mod_pot.1 y_Mod_pot.2.1 y_Mod_pot.2.2.1 y_Mod_pot.2.2.2.1 ∈ gtb ∧ Cond.initialized y_Mod_pot.1.cls ∈ gtb ∧ y_Mod_pot.1.cls ≠ "java/lang/invoke/MethodHandle" ∧ y_Mod_pot.1.cls ≠ "java/lang/invoke/VarHandle" ∧ (parseMethodDescriptor y_Mod_pot.1.desc).map (fun d => d.parameters.length) = some 4 := ⟨(gk_7 (List.mem_of_getElem? (i := 196) rfl) rfl), cz_Mod, cx_Mod.1, cx_Mod.2, by decide +kernel⟩
set_option maxRecDepth 100000 in
theorem mi_Mod_pot : Cond.instanceMethod y_Mod_pot.1 ∈ gtb := (gk_7 (List.mem_of_getElem? (i := 194) rfl) rfl)
set_option maxRecDepth 100000 in
theorem mv_Mod_pot : Cond.selects y_Mod_pot.1.cls y_Mod_pot.1 y_Mod_pot.1 ∈ gtb := (gk_7 (List.mem_of_getElem? (i := 195) rfl) rfl)
set_option maxRecDepth 100000 in
theorem mo_Law0_74 : mOk R_law 74 4 y_Mod_pot := ⟨Or.inl (gk_7 (List.mem_of_getElem? (i := 193) rfl) rfl), mk_Mod_pot⟩
set_option maxRecDepth 100000 in
theorem mk_Main_pinch : Cond.code y_Main_pinch.1 y_Main_pinch.2.1 y_Main_pinch.2.2.1 y_Main_pinch.2.2.2.1 ∈ gtb ∧ Cond.initialized y_Main_pinch.1.cls ∈ gtb ∧ y_Main_pinch.1.cls ≠ "java/lang/invoke/MethodHandle" ∧ y_Main_pinch.1.cls ≠ "java/lang/invoke/VarHandle" ∧ (parseMethodDescriptor y_Main_pinch.1.desc).map (fun d => d.parameters.length) = some 2 := ⟨(gk_4 (List.mem_of_getElem? (i := 226) rfl) rfl), cz_Main, cx_Main.1, cx_Main.2, by decide +kernel⟩
set_option maxRecDepth 100000 in
theorem mi_Main_pinch : Cond.instanceMethod y_Main_pinch.1 ∈ gtb := (gk_4 (List.mem_of_getElem? (i := 224) rfl) rfl)
set_option maxRecDepth 100000 in
theorem mv_Main_pinch : Cond.selects y_Main_pinch.1.cls y_Main_pinch.1 y_Main_pinch.1 ∈ gtb := (gk_4 (List.mem_of_getElem? (i := 225) rfl) rfl)
set_option maxRecDepth 100000 in
theorem mo_Law0_75 : mOk R_law 75 2 y_Main_pinch := ⟨Or.inl (gk_4 (List.mem_of_getElem? (i := 223) rfl) rfl), mk_Main_pinch⟩
set_option maxRecDepth 100000 in
theorem mk_Mod_pinch : Cond.code y_Mod_pinch.1 y_Mod_pinch.2.1 y_Mod_pinch.2.2.1 y_Mod_pinch.2.2.2.1 ∈ gtb ∧ Cond.initialized y_Mod_pinch.1.cls ∈ gtb ∧ y_Mod_pinch.1.cls ≠ "java/lang/invoke/MethodHandle" ∧ y_Mod_pinch.1.cls ≠ "java/lang/invoke/VarHandle" ∧ (parseMethodDescriptor y_Mod_pinch.1.desc).map (fun d => d.parameters.length) = some 2 := ⟨(gk_7 (List.mem_of_getElem? (i := 215) rfl) rfl), cz_Mod, cx_Mod.1, cx_Mod.2, by decide +kernel⟩
set_option maxRecDepth 100000 in
theorem mi_Mod_pinch : Cond.instanceMethod y_Mod_pinch.1 ∈ gtb := (gk_7 (List.mem_of_getElem? (i := 213) rfl) rfl)
set_option maxRecDepth 100000 in
theorem mv_Mod_pinch : Cond.selects y_Mod_pinch.1.cls y_Mod_pinch.1 y_Mod_pinch.1 ∈ gtb := (gk_7 (List.mem_of_getElem? (i := 214) rfl) rfl)
set_option maxRecDepth 100000 in
theorem mo_Law0_78 : mOk R_law 78 2 y_Mod_pinch := ⟨Or.inl (gk_7 (List.mem_of_getElem? (i := 212) rfl) rfl), mk_Mod_pinch⟩
set_option maxRecDepth 100000 in
theorem mk_Main_freest : Cond.code y_Main_freest.1 y_Main_freest.2.1 y_Main_freest.2.2.1 y_Main_freest.2.2.2.1 ∈ gtb ∧ Cond.initialized y_Main_freest.1.cls ∈ gtb ∧ y_Main_freest.1.cls ≠ "java/lang/invoke/MethodHandle" ∧ y_Main_freest.1.cls ≠ "java/lang/invoke/VarHandle" ∧ (parseMethodDescriptor y_Main_freest.1.desc).map (fun d => d.parameters.length) = some 2 := ⟨(gk_4 (List.mem_of_getElem? (i := 237) rfl) rfl), cz_Main, cx_Main.1, cx_Main.2, by decide +kernel⟩
set_option maxRecDepth 100000 in
theorem mi_Main_freest : Cond.instanceMethod y_Main_freest.1 ∈ gtb := (gk_4 (List.mem_of_getElem? (i := 235) rfl) rfl)
set_option maxRecDepth 100000 in
theorem mv_Main_freest : Cond.selects y_Main_freest.1.cls y_Main_freest.1 y_Main_freest.1 ∈ gtb := (gk_4 (List.mem_of_getElem? (i := 236) rfl) rfl)
set_option maxRecDepth 100000 in
theorem mo_Law0_79 : mOk R_law 79 2 y_Main_freest := ⟨Or.inl (gk_4 (List.mem_of_getElem? (i := 234) rfl) rfl), mk_Main_freest⟩
set_option maxRecDepth 100000 in
theorem mk_Mod_freest : Cond.code y_Mod_freest.1 y_Mod_freest.2.1 y_Mod_freest.2.2.1 y_Mod_freest.2.2.2.1 ∈ gtb ∧ Cond.initialized y_Mod_freest.1.cls ∈ gtb ∧ y_Mod_freest.1.cls ≠ "java/lang/invoke/MethodHandle" ∧ y_Mod_freest.1.cls ≠ "java/lang/invoke/VarHandle" ∧ (parseMethodDescriptor y_Mod_freest.1.desc).map (fun d => d.parameters.length) = some 2 := ⟨(gk_7 (List.mem_of_getElem? (i := 222) rfl) rfl), cz_Mod, cx_Mod.1, cx_Mod.2, by decide +kernel⟩
set_option maxRecDepth 100000 in
theorem mi_Mod_freest : Cond.instanceMethod y_Mod_freest.1 ∈ gtb := (gk_7 (List.mem_of_getElem? (i := 220) rfl) rfl)
set_option maxRecDepth 100000 in
theorem mv_Mod_freest : Cond.selects y_Mod_freest.1.cls y_Mod_freest.1 y_Mod_freest.1 ∈ gtb := (gk_7 (List.mem_of_getElem? (i := 221) rfl) rfl)
set_option maxRecDepth 100000 in
theorem mo_Law0_82 : mOk R_law 82 2 y_Mod_freest := ⟨Or.inl (gk_7 (List.mem_of_getElem? (i := 219) rfl) rfl), mk_Mod_freest⟩
set_option maxRecDepth 100000 in
theorem mk_Main_supper : Cond.code y_Main_supper.1 y_Main_supper.2.1 y_Main_supper.2.2.1 y_Main_supper.2.2.2.1 ∈ gtb ∧ Cond.initialized y_Main_supper.1.cls ∈ gtb ∧ y_Main_supper.1.cls ≠ "java/lang/invoke/MethodHandle" ∧ y_Main_supper.1.cls ≠ "java/lang/invoke/VarHandle" ∧ (parseMethodDescriptor y_Main_supper.1.desc).map (fun d => d.parameters.length) = some 0 := ⟨(gk_5 (List.mem_of_getElem? (i := 23) rfl) rfl), cz_Main, cx_Main.1, cx_Main.2, by decide +kernel⟩
set_option maxRecDepth 100000 in
theorem mi_Main_supper : Cond.instanceMethod y_Main_supper.1 ∈ gtb := (gk_5 (List.mem_of_getElem? (i := 21) rfl) rfl)
set_option maxRecDepth 100000 in
theorem mv_Main_supper : Cond.selects y_Main_supper.1.cls y_Main_supper.1 y_Main_supper.1 ∈ gtb := (gk_5 (List.mem_of_getElem? (i := 22) rfl) rfl)
set_option maxRecDepth 100000 in
theorem mo_Law0_83 : mOk R_law 83 0 y_Main_supper := ⟨Or.inl (gk_5 (List.mem_of_getElem? (i := 20) rfl) rfl), mk_Main_supper⟩
set_option maxRecDepth 100000 in
theorem mk_Mod_supper : Cond.code y_Mod_supper.1 y_Mod_supper.2.1 y_Mod_supper.2.2.1 y_Mod_supper.2.2.2.1 ∈ gtb ∧ Cond.initialized y_Mod_supper.1.cls ∈ gtb ∧ y_Mod_supper.1.cls ≠ "java/lang/invoke/MethodHandle" ∧ y_Mod_supper.1.cls ≠ "java/lang/invoke/VarHandle" ∧ (parseMethodDescriptor y_Mod_supper.1.desc).map (fun d => d.parameters.length) = some 0 := ⟨(gk_7 (List.mem_of_getElem? (i := 237) rfl) rfl), cz_Mod, cx_Mod.1, cx_Mod.2, by decide +kernel⟩
set_option maxRecDepth 100000 in
theorem mi_Mod_supper : Cond.instanceMethod y_Mod_supper.1 ∈ gtb := (gk_7 (List.mem_of_getElem? (i := 235) rfl) rfl)
set_option maxRecDepth 100000 in
theorem mv_Mod_supper : Cond.selects y_Mod_supper.1.cls y_Mod_supper.1 y_Mod_supper.1 ∈ gtb := (gk_7 (List.mem_of_getElem? (i := 236) rfl) rfl)
set_option maxRecDepth 100000 in
theorem mo_Law0_86 : mOk R_law 86 0 y_Mod_supper := ⟨Or.inl (gk_7 (List.mem_of_getElem? (i := 234) rfl) rfl), mk_Mod_supper⟩
set_option maxRecDepth 100000 in
theorem mk_Main_feud : Cond.code y_Main_feud.1 y_Main_feud.2.1 y_Main_feud.2.2.1 y_Main_feud.2.2.2.1 ∈ gtb ∧ Cond.initialized y_Main_feud.1.cls ∈ gtb ∧ y_Main_feud.1.cls ≠ "java/lang/invoke/MethodHandle" ∧ y_Main_feud.1.cls ≠ "java/lang/invoke/VarHandle" ∧ (parseMethodDescriptor y_Main_feud.1.desc).map (fun d => d.parameters.length) = some 3 := ⟨(gk_5 (List.mem_of_getElem? (i := 27) rfl) rfl), cz_Main, cx_Main.1, cx_Main.2, by decide +kernel⟩
set_option maxRecDepth 100000 in
theorem mi_Main_feud : Cond.instanceMethod y_Main_feud.1 ∈ gtb := (gk_5 (List.mem_of_getElem? (i := 25) rfl) rfl)
set_option maxRecDepth 100000 in
theorem mv_Main_feud : Cond.selects y_Main_feud.1.cls y_Main_feud.1 y_Main_feud.1 ∈ gtb := (gk_5 (List.mem_of_getElem? (i := 26) rfl) rfl)
set_option maxRecDepth 100000 in
theorem mo_Law0_87 : mOk R_law 87 3 y_Main_feud := ⟨Or.inl (gk_5 (List.mem_of_getElem? (i := 24) rfl) rfl), mk_Main_feud⟩
set_option maxRecDepth 100000 in
theorem mk_Mod_feud : Cond.code y_Mod_feud.1 y_Mod_feud.2.1 y_Mod_feud.2.2.1 y_Mod_feud.2.2.2.1 ∈ gtb ∧ Cond.initialized y_Mod_feud.1.cls ∈ gtb ∧ y_Mod_feud.1.cls ≠ "java/lang/invoke/MethodHandle" ∧ y_Mod_feud.1.cls ≠ "java/lang/invoke/VarHandle" ∧ (parseMethodDescriptor y_Mod_feud.1.desc).map (fun d => d.parameters.length) = some 3 := ⟨(gk_8 (List.mem_of_getElem? (i := 1) rfl) rfl), cz_Mod, cx_Mod.1, cx_Mod.2, by decide +kernel⟩
set_option maxRecDepth 100000 in
theorem mi_Mod_feud : Cond.instanceMethod y_Mod_feud.1 ∈ gtb := (gk_7 (List.mem_of_getElem? (i := 239) rfl) rfl)
set_option maxRecDepth 100000 in
theorem mv_Mod_feud : Cond.selects y_Mod_feud.1.cls y_Mod_feud.1 y_Mod_feud.1 ∈ gtb := (gk_8 (List.mem_of_getElem? (i := 0) rfl) rfl)
set_option maxRecDepth 100000 in
theorem mo_Law0_91 : mOk R_law 91 3 y_Mod_feud := ⟨Or.inl (gk_7 (List.mem_of_getElem? (i := 238) rfl) rfl), mk_Mod_feud⟩
set_option maxRecDepth 100000 in
theorem mk_Main_menu : Cond.code y_Main_menu.1 y_Main_menu.2.1 y_Main_menu.2.2.1 y_Main_menu.2.2.2.1 ∈ gtb ∧ Cond.initialized y_Main_menu.1.cls ∈ gtb ∧ y_Main_menu.1.cls ≠ "java/lang/invoke/MethodHandle" ∧ y_Main_menu.1.cls ≠ "java/lang/invoke/VarHandle" ∧ (parseMethodDescriptor y_Main_menu.1.desc).map (fun d => d.parameters.length) = some 4 := ⟨(gk_5 (List.mem_of_getElem? (i := 31) rfl) rfl), cz_Main, cx_Main.1, cx_Main.2, by decide +kernel⟩
set_option maxRecDepth 100000 in
theorem mi_Main_menu : Cond.instanceMethod y_Main_menu.1 ∈ gtb := (gk_5 (List.mem_of_getElem? (i := 29) rfl) rfl)
set_option maxRecDepth 100000 in
theorem mv_Main_menu : Cond.selects y_Main_menu.1.cls y_Main_menu.1 y_Main_menu.1 ∈ gtb := (gk_5 (List.mem_of_getElem? (i := 30) rfl) rfl)
set_option maxRecDepth 100000 in
theorem mo_Law0_92 : mOk R_law 92 4 y_Main_menu := ⟨Or.inl (gk_5 (List.mem_of_getElem? (i := 28) rfl) rfl), mk_Main_menu⟩
set_option maxRecDepth 100000 in
theorem mk_Mod_menu : Cond.code y_Mod_menu.1 y_Mod_menu.2.1 y_Mod_menu.2.2.1 y_Mod_menu.2.2.2.1 ∈ gtb ∧ Cond.initialized y_Mod_menu.1.cls ∈ gtb ∧ y_Mod_menu.1.cls ≠ "java/lang/invoke/MethodHandle" ∧ y_Mod_menu.1.cls ≠ "java/lang/invoke/VarHandle" ∧ (parseMethodDescriptor y_Mod_menu.1.desc).map (fun d => d.parameters.length) = some 4 := ⟨(gk_8 (List.mem_of_getElem? (i := 5) rfl) rfl), cz_Mod, cx_Mod.1, cx_Mod.2, by decide +kernel⟩
set_option maxRecDepth 100000 in
theorem mi_Mod_menu : Cond.instanceMethod y_Mod_menu.1 ∈ gtb := (gk_8 (List.mem_of_getElem? (i := 3) rfl) rfl)
set_option maxRecDepth 100000 in
theorem mv_Mod_menu : Cond.selects y_Mod_menu.1.cls y_Mod_menu.1 y_Mod_menu.1 ∈ gtb := (gk_8 (List.mem_of_getElem? (i := 4) rfl) rfl)
set_option maxRecDepth 100000 in
theorem mo_Law0_95 : mOk R_law 95 4 y_Mod_menu := ⟨Or.inl (gk_8 (List.mem_of_getElem? (i := 2) rfl) rfl), mk_Mod_menu⟩
set_option maxRecDepth 100000 in
theorem mk_Main_often : Cond.code y_Main_often.1 y_Main_often.2.1 y_Main_often.2.2.1 y_Main_often.2.2.2.1 ∈ gtb ∧ Cond.initialized y_Main_often.1.cls ∈ gtb ∧ y_Main_often.1.cls ≠ "java/lang/invoke/MethodHandle" ∧ y_Main_often.1.cls ≠ "java/lang/invoke/VarHandle" ∧ (parseMethodDescriptor y_Main_often.1.desc).map (fun d => d.parameters.length) = some 1 := ⟨(gk_5 (List.mem_of_getElem? (i := 68) rfl) rfl), cz_Main, cx_Main.1, cx_Main.2, by decide +kernel⟩
set_option maxRecDepth 100000 in
theorem mi_Main_often : Cond.instanceMethod y_Main_often.1 ∈ gtb := (gk_5 (List.mem_of_getElem? (i := 66) rfl) rfl)
set_option maxRecDepth 100000 in
theorem mv_Main_often : Cond.selects y_Main_often.1.cls y_Main_often.1 y_Main_often.1 ∈ gtb := (gk_5 (List.mem_of_getElem? (i := 67) rfl) rfl)
set_option maxRecDepth 100000 in
theorem mo_Law0_96 : mOk R_law 96 1 y_Main_often := ⟨Or.inl (gk_5 (List.mem_of_getElem? (i := 65) rfl) rfl), mk_Main_often⟩
set_option maxRecDepth 100000 in
theorem mk_Mod_often : Cond.code y_Mod_often.1 y_Mod_often.2.1 y_Mod_often.2.2.1 y_Mod_often.2.2.2.1 ∈ gtb ∧ Cond.initialized y_Mod_often.1.cls ∈ gtb ∧ y_Mod_often.1.cls ≠ "java/lang/invoke/MethodHandle" ∧ y_Mod_often.1.cls ≠ "java/lang/invoke/VarHandle" ∧ (parseMethodDescriptor y_Mod_often.1.desc).map (fun d => d.parameters.length) = some 1 := ⟨(gk_8 (List.mem_of_getElem? (i := 16) rfl) rfl), cz_Mod, cx_Mod.1, cx_Mod.2, by decide +kernel⟩
set_option maxRecDepth 100000 in
theorem mi_Mod_often : Cond.instanceMethod y_Mod_often.1 ∈ gtb := (gk_8 (List.mem_of_getElem? (i := 14) rfl) rfl)
set_option maxRecDepth 100000 in
theorem mv_Mod_often : Cond.selects y_Mod_often.1.cls y_Mod_often.1 y_Mod_often.1 ∈ gtb := (gk_8 (List.mem_of_getElem? (i := 15) rfl) rfl)
set_option maxRecDepth 100000 in
theorem mo_Law0_99 : mOk R_law 99 1 y_Mod_often := ⟨Or.inl (gk_8 (List.mem_of_getElem? (i := 13) rfl) rfl), mk_Mod_often⟩
set_option maxRecDepth 100000 in
theorem mk_Main_hunger : Cond.code y_Main_hunger.1 y_Main_hunger.2.1 y_Main_hunger.2.2.1 y_Main_hunger.2.2.2.1 ∈ gtb ∧ Cond.initialized y_Main_hunger.1.cls ∈ gtb ∧ y_Main_hunger.1.cls ≠ "java/lang/invoke/MethodHandle" ∧ y_Main_hunger.1.cls ≠ "java/lang/invoke/VarHandle" ∧ (parseMethodDescriptor y_Main_hunger.1.desc).map (fun d => d.parameters.length) = some 2 := ⟨(gk_5 (List.mem_of_getElem? (i := 73) rfl) rfl), cz_Main, cx_Main.1, cx_Main.2, by decide +kernel⟩
set_option maxRecDepth 100000 in
theorem mi_Main_hunger : Cond.instanceMethod y_Main_hunger.1 ∈ gtb := (gk_5 (List.mem_of_getElem? (i := 71) rfl) rfl)
set_option maxRecDepth 100000 in
theorem mv_Main_hunger : Cond.selects y_Main_hunger.1.cls y_Main_hunger.1 y_Main_hunger.1 ∈ gtb := (gk_5 (List.mem_of_getElem? (i := 72) rfl) rfl)
set_option maxRecDepth 100000 in
theorem mo_Law0_100 : mOk R_law 100 2 y_Main_hunger := ⟨Or.inl (gk_5 (List.mem_of_getElem? (i := 70) rfl) rfl), mk_Main_hunger⟩
set_option maxRecDepth 100000 in
theorem mk_Mod_hunger : Cond.code y_Mod_hunger.1 y_Mod_hunger.2.1 y_Mod_hunger.2.2.1 y_Mod_hunger.2.2.2.1 ∈ gtb ∧ Cond.initialized y_Mod_hunger.1.cls ∈ gtb ∧ y_Mod_hunger.1.cls ≠ "java/lang/invoke/MethodHandle" ∧ y_Mod_hunger.1.cls ≠ "java/lang/invoke/VarHandle" ∧ (parseMethodDescriptor y_Mod_hunger.1.desc).map (fun d => d.parameters.length) = some 2 := ⟨(gk_8 (List.mem_of_getElem? (i := 20) rfl) rfl), cz_Mod, cx_Mod.1, cx_Mod.2, by decide +kernel⟩
set_option maxRecDepth 100000 in
theorem mi_Mod_hunger : Cond.instanceMethod y_Mod_hunger.1 ∈ gtb := (gk_8 (List.mem_of_getElem? (i := 18) rfl) rfl)
set_option maxRecDepth 100000 in
theorem mv_Mod_hunger : Cond.selects y_Mod_hunger.1.cls y_Mod_hunger.1 y_Mod_hunger.1 ∈ gtb := (gk_8 (List.mem_of_getElem? (i := 19) rfl) rfl)
set_option maxRecDepth 100000 in
theorem mo_Law0_103 : mOk R_law 103 2 y_Mod_hunger := ⟨Or.inl (gk_8 (List.mem_of_getElem? (i := 17) rfl) rfl), mk_Mod_hunger⟩
set_option maxRecDepth 100000 in
theorem mk_Main_stockIn : Cond.code y_Main_stockIn.1 y_Main_stockIn.2.1 y_Main_stockIn.2.2.1 y_Main_stockIn.2.2.2.1 ∈ gtb ∧ Cond.initialized y_Main_stockIn.1.cls ∈ gtb ∧ y_Main_stockIn.1.cls ≠ "java/lang/invoke/MethodHandle" ∧ y_Main_stockIn.1.cls ≠ "java/lang/invoke/VarHandle" ∧ (parseMethodDescriptor y_Main_stockIn.1.desc).map (fun d => d.parameters.length) = some 2 := ⟨(gk_5 (List.mem_of_getElem? (i := 77) rfl) rfl), cz_Main, cx_Main.1, cx_Main.2, by decide +kernel⟩
set_option maxRecDepth 100000 in
theorem mi_Main_stockIn : Cond.instanceMethod y_Main_stockIn.1 ∈ gtb := (gk_5 (List.mem_of_getElem? (i := 75) rfl) rfl)
set_option maxRecDepth 100000 in
theorem mv_Main_stockIn : Cond.selects y_Main_stockIn.1.cls y_Main_stockIn.1 y_Main_stockIn.1 ∈ gtb := (gk_5 (List.mem_of_getElem? (i := 76) rfl) rfl)
set_option maxRecDepth 100000 in
theorem mo_Law0_104 : mOk R_law 104 2 y_Main_stockIn := ⟨Or.inl (gk_5 (List.mem_of_getElem? (i := 74) rfl) rfl), mk_Main_stockIn⟩
set_option maxRecDepth 100000 in
theorem mk_Mod_stockIn : Cond.code y_Mod_stockIn.1 y_Mod_stockIn.2.1 y_Mod_stockIn.2.2.1 y_Mod_stockIn.2.2.2.1 ∈ gtb ∧ Cond.initialized y_Mod_stockIn.1.cls ∈ gtb ∧ y_Mod_stockIn.1.cls ≠ "java/lang/invoke/MethodHandle" ∧ y_Mod_stockIn.1.cls ≠ "java/lang/invoke/VarHandle" ∧ (parseMethodDescriptor y_Mod_stockIn.1.desc).map (fun d => d.parameters.length) = some 2 := ⟨(gk_8 (List.mem_of_getElem? (i := 24) rfl) rfl), cz_Mod, cx_Mod.1, cx_Mod.2, by decide +kernel⟩
set_option maxRecDepth 100000 in
theorem mi_Mod_stockIn : Cond.instanceMethod y_Mod_stockIn.1 ∈ gtb := (gk_8 (List.mem_of_getElem? (i := 22) rfl) rfl)
set_option maxRecDepth 100000 in
theorem mv_Mod_stockIn : Cond.selects y_Mod_stockIn.1.cls y_Mod_stockIn.1 y_Mod_stockIn.1 ∈ gtb := (gk_8 (List.mem_of_getElem? (i := 23) rfl) rfl)
set_option maxRecDepth 100000 in
theorem mo_Law0_107 : mOk R_law 107 2 y_Mod_stockIn := ⟨Or.inl (gk_8 (List.mem_of_getElem? (i := 21) rfl) rfl), mk_Mod_stockIn⟩
set_option maxRecDepth 100000 in
theorem mk_Main_boundIn : Cond.code y_Main_boundIn.1 y_Main_boundIn.2.1 y_Main_boundIn.2.2.1 y_Main_boundIn.2.2.2.1 ∈ gtb ∧ Cond.initialized y_Main_boundIn.1.cls ∈ gtb ∧ y_Main_boundIn.1.cls ≠ "java/lang/invoke/MethodHandle" ∧ y_Main_boundIn.1.cls ≠ "java/lang/invoke/VarHandle" ∧ (parseMethodDescriptor y_Main_boundIn.1.desc).map (fun d => d.parameters.length) = some 3 := ⟨(gk_5 (List.mem_of_getElem? (i := 81) rfl) rfl), cz_Main, cx_Main.1, cx_Main.2, by decide +kernel⟩
set_option maxRecDepth 100000 in
theorem mi_Main_boundIn : Cond.instanceMethod y_Main_boundIn.1 ∈ gtb := (gk_5 (List.mem_of_getElem? (i := 79) rfl) rfl)
set_option maxRecDepth 100000 in
theorem mv_Main_boundIn : Cond.selects y_Main_boundIn.1.cls y_Main_boundIn.1 y_Main_boundIn.1 ∈ gtb := (gk_5 (List.mem_of_getElem? (i := 80) rfl) rfl)
set_option maxRecDepth 100000 in
theorem mo_Law0_108 : mOk R_law 108 3 y_Main_boundIn := ⟨Or.inl (gk_5 (List.mem_of_getElem? (i := 78) rfl) rfl), mk_Main_boundIn⟩
set_option maxRecDepth 100000 in
theorem mk_Mod_boundIn : Cond.code y_Mod_boundIn.1 y_Mod_boundIn.2.1 y_Mod_boundIn.2.2.1 y_Mod_boundIn.2.2.2.1 ∈ gtb ∧ Cond.initialized y_Mod_boundIn.1.cls ∈ gtb ∧ y_Mod_boundIn.1.cls ≠ "java/lang/invoke/MethodHandle" ∧ y_Mod_boundIn.1.cls ≠ "java/lang/invoke/VarHandle" ∧ (parseMethodDescriptor y_Mod_boundIn.1.desc).map (fun d => d.parameters.length) = some 3 := ⟨(gk_8 (List.mem_of_getElem? (i := 31) rfl) rfl), cz_Mod, cx_Mod.1, cx_Mod.2, by decide +kernel⟩
set_option maxRecDepth 100000 in
theorem mi_Mod_boundIn : Cond.instanceMethod y_Mod_boundIn.1 ∈ gtb := (gk_8 (List.mem_of_getElem? (i := 29) rfl) rfl)
set_option maxRecDepth 100000 in
theorem mv_Mod_boundIn : Cond.selects y_Mod_boundIn.1.cls y_Mod_boundIn.1 y_Mod_boundIn.1 ∈ gtb := (gk_8 (List.mem_of_getElem? (i := 30) rfl) rfl)
set_option maxRecDepth 100000 in
theorem mo_Law0_111 : mOk R_law 111 3 y_Mod_boundIn := ⟨Or.inl (gk_8 (List.mem_of_getElem? (i := 28) rfl) rfl), mk_Mod_boundIn⟩
set_option maxRecDepth 100000 in
theorem mk_Main_year : Cond.code y_Main_year.1 y_Main_year.2.1 y_Main_year.2.2.1 y_Main_year.2.2.2.1 ∈ gtb ∧ Cond.initialized y_Main_year.1.cls ∈ gtb ∧ y_Main_year.1.cls ≠ "java/lang/invoke/MethodHandle" ∧ y_Main_year.1.cls ≠ "java/lang/invoke/VarHandle" ∧ (parseMethodDescriptor y_Main_year.1.desc).map (fun d => d.parameters.length) = some 4 := ⟨(gk_5 (List.mem_of_getElem? (i := 85) rfl) rfl), cz_Main, cx_Main.1, cx_Main.2, by decide +kernel⟩
set_option maxRecDepth 100000 in
theorem mi_Main_year : Cond.instanceMethod y_Main_year.1 ∈ gtb := (gk_5 (List.mem_of_getElem? (i := 83) rfl) rfl)
set_option maxRecDepth 100000 in
theorem mv_Main_year : Cond.selects y_Main_year.1.cls y_Main_year.1 y_Main_year.1 ∈ gtb := (gk_5 (List.mem_of_getElem? (i := 84) rfl) rfl)
set_option maxRecDepth 100000 in
theorem mo_Law0_112 : mOk R_law 112 4 y_Main_year := ⟨Or.inl (gk_5 (List.mem_of_getElem? (i := 82) rfl) rfl), mk_Main_year⟩
set_option maxRecDepth 100000 in
theorem mk_Mod_year : Cond.code y_Mod_year.1 y_Mod_year.2.1 y_Mod_year.2.2.1 y_Mod_year.2.2.2.1 ∈ gtb ∧ Cond.initialized y_Mod_year.1.cls ∈ gtb ∧ y_Mod_year.1.cls ≠ "java/lang/invoke/MethodHandle" ∧ y_Mod_year.1.cls ≠ "java/lang/invoke/VarHandle" ∧ (parseMethodDescriptor y_Mod_year.1.desc).map (fun d => d.parameters.length) = some 4 := ⟨(gk_8 (List.mem_of_getElem? (i := 35) rfl) rfl), cz_Mod, cx_Mod.1, cx_Mod.2, by decide +kernel⟩
set_option maxRecDepth 100000 in
theorem mi_Mod_year : Cond.instanceMethod y_Mod_year.1 ∈ gtb := (gk_8 (List.mem_of_getElem? (i := 33) rfl) rfl)
set_option maxRecDepth 100000 in
theorem mv_Mod_year : Cond.selects y_Mod_year.1.cls y_Mod_year.1 y_Mod_year.1 ∈ gtb := (gk_8 (List.mem_of_getElem? (i := 34) rfl) rfl)
set_option maxRecDepth 100000 in
theorem mo_Law0_115 : mOk R_law 115 4 y_Mod_year := ⟨Or.inl (gk_8 (List.mem_of_getElem? (i := 32) rfl) rfl), mk_Mod_year⟩
set_option maxRecDepth 100000 in
theorem mk_Main_tell : Cond.code y_Main_tell.1 y_Main_tell.2.1 y_Main_tell.2.2.1 y_Main_tell.2.2.2.1 ∈ gtb ∧ Cond.initialized y_Main_tell.1.cls ∈ gtb ∧ y_Main_tell.1.cls ≠ "java/lang/invoke/MethodHandle" ∧ y_Main_tell.1.cls ≠ "java/lang/invoke/VarHandle" ∧ (parseMethodDescriptor y_Main_tell.1.desc).map (fun d => d.parameters.length) = some 3 := ⟨(gk_5 (List.mem_of_getElem? (i := 90) rfl) rfl), cz_Main, cx_Main.1, cx_Main.2, by decide +kernel⟩
set_option maxRecDepth 100000 in
theorem mi_Main_tell : Cond.instanceMethod y_Main_tell.1 ∈ gtb := (gk_5 (List.mem_of_getElem? (i := 88) rfl) rfl)
set_option maxRecDepth 100000 in
theorem mv_Main_tell : Cond.selects y_Main_tell.1.cls y_Main_tell.1 y_Main_tell.1 ∈ gtb := (gk_5 (List.mem_of_getElem? (i := 89) rfl) rfl)
set_option maxRecDepth 100000 in
theorem mo_Law0_116 : mOk R_law 116 3 y_Main_tell := ⟨Or.inl (gk_5 (List.mem_of_getElem? (i := 87) rfl) rfl), mk_Main_tell⟩
set_option maxRecDepth 100000 in
theorem mk_Mod_tell : Cond.code y_Mod_tell.1 y_Mod_tell.2.1 y_Mod_tell.2.2.1 y_Mod_tell.2.2.2.1 ∈ gtb ∧ Cond.initialized y_Mod_tell.1.cls ∈ gtb ∧ y_Mod_tell.1.cls ≠ "java/lang/invoke/MethodHandle" ∧ y_Mod_tell.1.cls ≠ "java/lang/invoke/VarHandle" ∧ (parseMethodDescriptor y_Mod_tell.1.desc).map (fun d => d.parameters.length) = some 3 := ⟨(gk_8 (List.mem_of_getElem? (i := 39) rfl) rfl), cz_Mod, cx_Mod.1, cx_Mod.2, by decide +kernel⟩
set_option maxRecDepth 100000 in
theorem mi_Mod_tell : Cond.instanceMethod y_Mod_tell.1 ∈ gtb := (gk_8 (List.mem_of_getElem? (i := 37) rfl) rfl)
set_option maxRecDepth 100000 in
theorem mv_Mod_tell : Cond.selects y_Mod_tell.1.cls y_Mod_tell.1 y_Mod_tell.1 ∈ gtb := (gk_8 (List.mem_of_getElem? (i := 38) rfl) rfl)
set_option maxRecDepth 100000 in
theorem mo_Law0_119 : mOk R_law 119 3 y_Mod_tell := ⟨Or.inl (gk_8 (List.mem_of_getElem? (i := 36) rfl) rfl), mk_Mod_tell⟩
set_option maxRecDepth 100000 in
theorem mk_Main_forget : Cond.code y_Main_forget.1 y_Main_forget.2.1 y_Main_forget.2.2.1 y_Main_forget.2.2.2.1 ∈ gtb ∧ Cond.initialized y_Main_forget.1.cls ∈ gtb ∧ y_Main_forget.1.cls ≠ "java/lang/invoke/MethodHandle" ∧ y_Main_forget.1.cls ≠ "java/lang/invoke/VarHandle" ∧ (parseMethodDescriptor y_Main_forget.1.desc).map (fun d => d.parameters.length) = some 0 := ⟨(gk_5 (List.mem_of_getElem? (i := 99) rfl) rfl), cz_Main, cx_Main.1, cx_Main.2, by decide +kernel⟩
set_option maxRecDepth 100000 in
theorem mi_Main_forget : Cond.instanceMethod y_Main_forget.1 ∈ gtb := (gk_5 (List.mem_of_getElem? (i := 97) rfl) rfl)
set_option maxRecDepth 100000 in
theorem mv_Main_forget : Cond.selects y_Main_forget.1.cls y_Main_forget.1 y_Main_forget.1 ∈ gtb := (gk_5 (List.mem_of_getElem? (i := 98) rfl) rfl)
set_option maxRecDepth 100000 in
theorem mo_Law0_120 : mOk R_law 120 0 y_Main_forget := ⟨Or.inl (gk_5 (List.mem_of_getElem? (i := 96) rfl) rfl), mk_Main_forget⟩
set_option maxRecDepth 100000 in
theorem mk_Mod_forget : Cond.code y_Mod_forget.1 y_Mod_forget.2.1 y_Mod_forget.2.2.1 y_Mod_forget.2.2.2.1 ∈ gtb ∧ Cond.initialized y_Mod_forget.1.cls ∈ gtb ∧ y_Mod_forget.1.cls ≠ "java/lang/invoke/MethodHandle" ∧ y_Mod_forget.1.cls ≠ "java/lang/invoke/VarHandle" ∧ (parseMethodDescriptor y_Mod_forget.1.desc).map (fun d => d.parameters.length) = some 0 := ⟨(gk_8 (List.mem_of_getElem? (i := 43) rfl) rfl), cz_Mod, cx_Mod.1, cx_Mod.2, by decide +kernel⟩
set_option maxRecDepth 100000 in
theorem mi_Mod_forget : Cond.instanceMethod y_Mod_forget.1 ∈ gtb := (gk_8 (List.mem_of_getElem? (i := 41) rfl) rfl)
set_option maxRecDepth 100000 in
theorem mv_Mod_forget : Cond.selects y_Mod_forget.1.cls y_Mod_forget.1 y_Mod_forget.1 ∈ gtb := (gk_8 (List.mem_of_getElem? (i := 42) rfl) rfl)
set_option maxRecDepth 100000 in
theorem mo_Law0_123 : mOk R_law 123 0 y_Mod_forget := ⟨Or.inl (gk_8 (List.mem_of_getElem? (i := 40) rfl) rfl), mk_Mod_forget⟩
set_option maxRecDepth 100000 in
theorem mk_Main_blame : Cond.code y_Main_blame.1 y_Main_blame.2.1 y_Main_blame.2.2.1 y_Main_blame.2.2.2.1 ∈ gtb ∧ Cond.initialized y_Main_blame.1.cls ∈ gtb ∧ y_Main_blame.1.cls ≠ "java/lang/invoke/MethodHandle" ∧ y_Main_blame.1.cls ≠ "java/lang/invoke/VarHandle" ∧ (parseMethodDescriptor y_Main_blame.1.desc).map (fun d => d.parameters.length) = some 1 := ⟨(gk_5 (List.mem_of_getElem? (i := 103) rfl) rfl), cz_Main, cx_Main.1, cx_Main.2, by decide +kernel⟩
set_option maxRecDepth 100000 in
theorem mi_Main_blame : Cond.instanceMethod y_Main_blame.1 ∈ gtb := (gk_5 (List.mem_of_getElem? (i := 101) rfl) rfl)
set_option maxRecDepth 100000 in
theorem mv_Main_blame : Cond.selects y_Main_blame.1.cls y_Main_blame.1 y_Main_blame.1 ∈ gtb := (gk_5 (List.mem_of_getElem? (i := 102) rfl) rfl)
set_option maxRecDepth 100000 in
theorem mo_Law0_124 : mOk R_law 124 1 y_Main_blame := ⟨Or.inl (gk_5 (List.mem_of_getElem? (i := 100) rfl) rfl), mk_Main_blame⟩
set_option maxRecDepth 100000 in
theorem mk_Mod_blame : Cond.code y_Mod_blame.1 y_Mod_blame.2.1 y_Mod_blame.2.2.1 y_Mod_blame.2.2.2.1 ∈ gtb ∧ Cond.initialized y_Mod_blame.1.cls ∈ gtb ∧ y_Mod_blame.1.cls ≠ "java/lang/invoke/MethodHandle" ∧ y_Mod_blame.1.cls ≠ "java/lang/invoke/VarHandle" ∧ (parseMethodDescriptor y_Mod_blame.1.desc).map (fun d => d.parameters.length) = some 1 := ⟨(gk_8 (List.mem_of_getElem? (i := 47) rfl) rfl), cz_Mod, cx_Mod.1, cx_Mod.2, by decide +kernel⟩
set_option maxRecDepth 100000 in
theorem mi_Mod_blame : Cond.instanceMethod y_Mod_blame.1 ∈ gtb := (gk_8 (List.mem_of_getElem? (i := 45) rfl) rfl)
set_option maxRecDepth 100000 in
theorem mv_Mod_blame : Cond.selects y_Mod_blame.1.cls y_Mod_blame.1 y_Mod_blame.1 ∈ gtb := (gk_8 (List.mem_of_getElem? (i := 46) rfl) rfl)
set_option maxRecDepth 100000 in
theorem mo_Law0_127 : mOk R_law 127 1 y_Mod_blame := ⟨Or.inl (gk_8 (List.mem_of_getElem? (i := 44) rfl) rfl), mk_Mod_blame⟩
set_option maxRecDepth 100000 in
theorem mk_Main_sure : Cond.code y_Main_sure.1 y_Main_sure.2.1 y_Main_sure.2.2.1 y_Main_sure.2.2.2.1 ∈ gtb ∧ Cond.initialized y_Main_sure.1.cls ∈ gtb ∧ y_Main_sure.1.cls ≠ "java/lang/invoke/MethodHandle" ∧ y_Main_sure.1.cls ≠ "java/lang/invoke/VarHandle" ∧ (parseMethodDescriptor y_Main_sure.1.desc).map (fun d => d.parameters.length) = some 1 := ⟨(gk_5 (List.mem_of_getElem? (i := 129) rfl) rfl), cz_Main, cx_Main.1, cx_Main.2, by decide +kernel⟩
set_option maxRecDepth 100000 in
theorem mi_Main_sure : Cond.instanceMethod y_Main_sure.1 ∈ gtb := (gk_5 (List.mem_of_getElem? (i := 127) rfl) rfl)
set_option maxRecDepth 100000 in
theorem mv_Main_sure : Cond.selects y_Main_sure.1.cls y_Main_sure.1 y_Main_sure.1 ∈ gtb := (gk_5 (List.mem_of_getElem? (i := 128) rfl) rfl)
set_option maxRecDepth 100000 in
theorem mo_Law0_128 : mOk R_law 128 1 y_Main_sure := ⟨Or.inl (gk_5 (List.mem_of_getElem? (i := 126) rfl) rfl), mk_Main_sure⟩
set_option maxRecDepth 100000 in
theorem mk_Mod_sure : Cond.code y_Mod_sure.1 y_Mod_sure.2.1 y_Mod_sure.2.2.1 y_Mod_sure.2.2.2.1 ∈ gtb ∧ Cond.initialized y_Mod_sure.1.cls ∈ gtb ∧ y_Mod_sure.1.cls ≠ "java/lang/invoke/MethodHandle" ∧ y_Mod_sure.1.cls ≠ "java/lang/invoke/VarHandle" ∧ (parseMethodDescriptor y_Mod_sure.1.desc).map (fun d => d.parameters.length) = some 1 := ⟨(gk_8 (List.mem_of_getElem? (i := 63) rfl) rfl), cz_Mod, cx_Mod.1, cx_Mod.2, by decide +kernel⟩
set_option maxRecDepth 100000 in
theorem mi_Mod_sure : Cond.instanceMethod y_Mod_sure.1 ∈ gtb := (gk_8 (List.mem_of_getElem? (i := 61) rfl) rfl)
set_option maxRecDepth 100000 in
theorem mv_Mod_sure : Cond.selects y_Mod_sure.1.cls y_Mod_sure.1 y_Mod_sure.1 ∈ gtb := (gk_8 (List.mem_of_getElem? (i := 62) rfl) rfl)
set_option maxRecDepth 100000 in
theorem mo_Law0_131 : mOk R_law 131 1 y_Mod_sure := ⟨Or.inl (gk_8 (List.mem_of_getElem? (i := 60) rfl) rfl), mk_Mod_sure⟩
set_option maxRecDepth 100000 in
theorem mk_Main_taste : Cond.code y_Main_taste.1 y_Main_taste.2.1 y_Main_taste.2.2.1 y_Main_taste.2.2.2.1 ∈ gtb ∧ Cond.initialized y_Main_taste.1.cls ∈ gtb ∧ y_Main_taste.1.cls ≠ "java/lang/invoke/MethodHandle" ∧ y_Main_taste.1.cls ≠ "java/lang/invoke/VarHandle" ∧ (parseMethodDescriptor y_Main_taste.1.desc).map (fun d => d.parameters.length) = some 1 := ⟨(gk_5 (List.mem_of_getElem? (i := 137) rfl) rfl), cz_Main, cx_Main.1, cx_Main.2, by decide +kernel⟩
set_option maxRecDepth 100000 in
theorem mi_Main_taste : Cond.instanceMethod y_Main_taste.1 ∈ gtb := (gk_5 (List.mem_of_getElem? (i := 135) rfl) rfl)
set_option maxRecDepth 100000 in
theorem mv_Main_taste : Cond.selects y_Main_taste.1.cls y_Main_taste.1 y_Main_taste.1 ∈ gtb := (gk_5 (List.mem_of_getElem? (i := 136) rfl) rfl)
set_option maxRecDepth 100000 in
theorem mo_Law0_132 : mOk R_law 132 1 y_Main_taste := ⟨Or.inl (gk_5 (List.mem_of_getElem? (i := 134) rfl) rfl), mk_Main_taste⟩
set_option maxRecDepth 100000 in
theorem mk_Mod_taste : Cond.code y_Mod_taste.1 y_Mod_taste.2.1 y_Mod_taste.2.2.1 y_Mod_taste.2.2.2.1 ∈ gtb ∧ Cond.initialized y_Mod_taste.1.cls ∈ gtb ∧ y_Mod_taste.1.cls ≠ "java/lang/invoke/MethodHandle" ∧ y_Mod_taste.1.cls ≠ "java/lang/invoke/VarHandle" ∧ (parseMethodDescriptor y_Mod_taste.1.desc).map (fun d => d.parameters.length) = some 1 := ⟨(gk_8 (List.mem_of_getElem? (i := 67) rfl) rfl), cz_Mod, cx_Mod.1, cx_Mod.2, by decide +kernel⟩
set_option maxRecDepth 100000 in
theorem mi_Mod_taste : Cond.instanceMethod y_Mod_taste.1 ∈ gtb := (gk_8 (List.mem_of_getElem? (i := 65) rfl) rfl)
set_option maxRecDepth 100000 in
theorem mv_Mod_taste : Cond.selects y_Mod_taste.1.cls y_Mod_taste.1 y_Mod_taste.1 ∈ gtb := (gk_8 (List.mem_of_getElem? (i := 66) rfl) rfl)
set_option maxRecDepth 100000 in
theorem mo_Law0_135 : mOk R_law 135 1 y_Mod_taste := ⟨Or.inl (gk_8 (List.mem_of_getElem? (i := 64) rfl) rfl), mk_Mod_taste⟩
set_option maxRecDepth 100000 in
theorem mk_Main_hold : Cond.code y_Main_hold.1 y_Main_hold.2.1 y_Main_hold.2.2.1 y_Main_hold.2.2.2.1 ∈ gtb ∧ Cond.initialized y_Main_hold.1.cls ∈ gtb ∧ y_Main_hold.1.cls ≠ "java/lang/invoke/MethodHandle" ∧ y_Main_hold.1.cls ≠ "java/lang/invoke/VarHandle" ∧ (parseMethodDescriptor y_Main_hold.1.desc).map (fun d => d.parameters.length) = some 1 := ⟨(gk_5 (List.mem_of_getElem? (i := 151) rfl) rfl), cz_Main, cx_Main.1, cx_Main.2, by decide +kernel⟩
set_option maxRecDepth 100000 in
theorem mi_Main_hold : Cond.instanceMethod y_Main_hold.1 ∈ gtb := (gk_5 (List.mem_of_getElem? (i := 149) rfl) rfl)
set_option maxRecDepth 100000 in
theorem mv_Main_hold : Cond.selects y_Main_hold.1.cls y_Main_hold.1 y_Main_hold.1 ∈ gtb := (gk_5 (List.mem_of_getElem? (i := 150) rfl) rfl)
set_option maxRecDepth 100000 in
theorem mo_Law0_136 : mOk R_law 136 1 y_Main_hold := ⟨Or.inl (gk_5 (List.mem_of_getElem? (i := 148) rfl) rfl), mk_Main_hold⟩
set_option maxRecDepth 100000 in
theorem mk_Mod_hold : Cond.code y_Mod_hold.1 y_Mod_hold.2.1 y_Mod_hold.2.2.1 y_Mod_hold.2.2.2.1 ∈ gtb ∧ Cond.initialized y_Mod_hold.1.cls ∈ gtb ∧ y_Mod_hold.1.cls ≠ "java/lang/invoke/MethodHandle" ∧ y_Mod_hold.1.cls ≠ "java/lang/invoke/VarHandle" ∧ (parseMethodDescriptor y_Mod_hold.1.desc).map (fun d => d.parameters.length) = some 1 := ⟨(gk_8 (List.mem_of_getElem? (i := 71) rfl) rfl), cz_Mod, cx_Mod.1, cx_Mod.2, by decide +kernel⟩
set_option maxRecDepth 100000 in
theorem mi_Mod_hold : Cond.instanceMethod y_Mod_hold.1 ∈ gtb := (gk_8 (List.mem_of_getElem? (i := 69) rfl) rfl)
set_option maxRecDepth 100000 in
theorem mv_Mod_hold : Cond.selects y_Mod_hold.1.cls y_Mod_hold.1 y_Mod_hold.1 ∈ gtb := (gk_8 (List.mem_of_getElem? (i := 70) rfl) rfl)
set_option maxRecDepth 100000 in
theorem mo_Law0_140 : mOk R_law 140 1 y_Mod_hold := ⟨Or.inl (gk_8 (List.mem_of_getElem? (i := 68) rfl) rfl), mk_Mod_hold⟩
set_option maxRecDepth 100000 in
theorem mk_Main_restore : Cond.code y_Main_restore.1 y_Main_restore.2.1 y_Main_restore.2.2.1 y_Main_restore.2.2.2.1 ∈ gtb ∧ Cond.initialized y_Main_restore.1.cls ∈ gtb ∧ y_Main_restore.1.cls ≠ "java/lang/invoke/MethodHandle" ∧ y_Main_restore.1.cls ≠ "java/lang/invoke/VarHandle" ∧ (parseMethodDescriptor y_Main_restore.1.desc).map (fun d => d.parameters.length) = some 1 := ⟨(gk_5 (List.mem_of_getElem? (i := 160) rfl) rfl), cz_Main, cx_Main.1, cx_Main.2, by decide +kernel⟩
set_option maxRecDepth 100000 in
theorem mi_Main_restore : Cond.instanceMethod y_Main_restore.1 ∈ gtb := (gk_5 (List.mem_of_getElem? (i := 158) rfl) rfl)
set_option maxRecDepth 100000 in
theorem mv_Main_restore : Cond.selects y_Main_restore.1.cls y_Main_restore.1 y_Main_restore.1 ∈ gtb := (gk_5 (List.mem_of_getElem? (i := 159) rfl) rfl)
set_option maxRecDepth 100000 in
theorem mo_Law0_141 : mOk R_law 141 1 y_Main_restore := ⟨Or.inl (gk_5 (List.mem_of_getElem? (i := 157) rfl) rfl), mk_Main_restore⟩
set_option maxRecDepth 100000 in
theorem mk_Mod_restore : Cond.code y_Mod_restore.1 y_Mod_restore.2.1 y_Mod_restore.2.2.1 y_Mod_restore.2.2.2.1 ∈ gtb ∧ Cond.initialized y_Mod_restore.1.cls ∈ gtb ∧ y_Mod_restore.1.cls ≠ "java/lang/invoke/MethodHandle" ∧ y_Mod_restore.1.cls ≠ "java/lang/invoke/VarHandle" ∧ (parseMethodDescriptor y_Mod_restore.1.desc).map (fun d => d.parameters.length) = some 1 := ⟨(gk_8 (List.mem_of_getElem? (i := 75) rfl) rfl), cz_Mod, cx_Mod.1, cx_Mod.2, by decide +kernel⟩
set_option maxRecDepth 100000 in
theorem mi_Mod_restore : Cond.instanceMethod y_Mod_restore.1 ∈ gtb := (gk_8 (List.mem_of_getElem? (i := 73) rfl) rfl)
set_option maxRecDepth 100000 in
theorem mv_Mod_restore : Cond.selects y_Mod_restore.1.cls y_Mod_restore.1 y_Mod_restore.1 ∈ gtb := (gk_8 (List.mem_of_getElem? (i := 74) rfl) rfl)
set_option maxRecDepth 100000 in
theorem mo_Law0_144 : mOk R_law 144 1 y_Mod_restore := ⟨Or.inl (gk_8 (List.mem_of_getElem? (i := 72) rfl) rfl), mk_Mod_restore⟩
set_option maxRecDepth 100000 in
theorem mk_Main_count : Cond.code y_Main_count.1 y_Main_count.2.1 y_Main_count.2.2.1 y_Main_count.2.2.2.1 ∈ gtb ∧ Cond.initialized y_Main_count.1.cls ∈ gtb ∧ y_Main_count.1.cls ≠ "java/lang/invoke/MethodHandle" ∧ y_Main_count.1.cls ≠ "java/lang/invoke/VarHandle" ∧ (parseMethodDescriptor y_Main_count.1.desc).map (fun d => d.parameters.length) = some 1 := ⟨(gk_5 (List.mem_of_getElem? (i := 169) rfl) rfl), cz_Main, cx_Main.1, cx_Main.2, by decide +kernel⟩
set_option maxRecDepth 100000 in
theorem mi_Main_count : Cond.instanceMethod y_Main_count.1 ∈ gtb := (gk_5 (List.mem_of_getElem? (i := 167) rfl) rfl)
set_option maxRecDepth 100000 in
theorem mv_Main_count : Cond.selects y_Main_count.1.cls y_Main_count.1 y_Main_count.1 ∈ gtb := (gk_5 (List.mem_of_getElem? (i := 168) rfl) rfl)
set_option maxRecDepth 100000 in
theorem mo_Law0_145 : mOk R_law 145 1 y_Main_count := ⟨Or.inl (gk_5 (List.mem_of_getElem? (i := 166) rfl) rfl), mk_Main_count⟩
set_option maxRecDepth 100000 in
theorem mk_Mod_count : Cond.code y_Mod_count.1 y_Mod_count.2.1 y_Mod_count.2.2.1 y_Mod_count.2.2.2.1 ∈ gtb ∧ Cond.initialized y_Mod_count.1.cls ∈ gtb ∧ y_Mod_count.1.cls ≠ "java/lang/invoke/MethodHandle" ∧ y_Mod_count.1.cls ≠ "java/lang/invoke/VarHandle" ∧ (parseMethodDescriptor y_Mod_count.1.desc).map (fun d => d.parameters.length) = some 1 := ⟨(gk_8 (List.mem_of_getElem? (i := 79) rfl) rfl), cz_Mod, cx_Mod.1, cx_Mod.2, by decide +kernel⟩
set_option maxRecDepth 100000 in
theorem mi_Mod_count : Cond.instanceMethod y_Mod_count.1 ∈ gtb := (gk_8 (List.mem_of_getElem? (i := 77) rfl) rfl)
set_option maxRecDepth 100000 in
theorem mv_Mod_count : Cond.selects y_Mod_count.1.cls y_Mod_count.1 y_Mod_count.1 ∈ gtb := (gk_8 (List.mem_of_getElem? (i := 78) rfl) rfl)
set_option maxRecDepth 100000 in
theorem mo_Law0_148 : mOk R_law 148 1 y_Mod_count := ⟨Or.inl (gk_8 (List.mem_of_getElem? (i := 76) rfl) rfl), mk_Mod_count⟩
def dli_0 : List (Nat × Instr × Nat) := [(0, .new 7, 3), (3, .dup, 1), (4, .invokespecial 9, 3), (7, .astore_n 1, 1), (8, .new 10, 3), (11, .dup, 1), (12, .invokespecial 12, 3), (15, .astore_n 2, 1), (16, .iconst 0, 1), (17, .istore_n 3, 1), (18, .iload_n 3, 1), (19, .aload_n 0, 1), (20, .arraylength, 1), (21, .bipush 6, 2), (23, .isub, 1), (24, .if_icmp .gt 1124, 3), (27, .aload_n 0, 1), (28, .iload_n 3, 1), (29, .iaload, 1), (30, .bipush 31, 2), (32, .iand, 1), (33, .tableswitch 1109 0 31 #[143, 206, 229, 242, 255, 288, 321, 354, 387, 420, 443, 466, 489, 502, 555, 588, 621, 634, 677, 730, 753, 786, 819, 862, 915, 958, 971, 994, 1017, 1040, 1063, 1086], 143), (176, .aload_n 1, 1), (177, .aload_n 0, 1), (178, .iload_n 3, 1), (179, .iconst 1, 1), (180, .iadd, 1), (181, .iaload, 1), (182, .aload_n 0, 1), (183, .iload_n 3, 1), (184, .iconst 2, 1), (185, .iadd, 1), (186, .iaload, 1), (187, .aload_n 0, 1), (188, .iload_n 3, 1), (189, .iconst 3, 1), (190, .iadd, 1), (191, .iaload, 1), (192, .aload_n 0, 1), (193, .iload_n 3, 1)]
set_option maxRecDepth 100000 in
theorem dla_0 : ∀ q ∈ dli_0, decode code q.1 = .ok q.2 := by decide +kernel
theorem d_law_0 : decode code 0 = .ok (.new 7, 3) := dla_0 (0, .new 7, 3) (List.mem_of_getElem? (i := 0) rfl)
theorem d_law_3 : decode code 3 = .ok (.dup, 1) := dla_0 (3, .dup, 1) (List.mem_of_getElem? (i := 1) rfl)
theorem d_law_4 : decode code 4 = .ok (.invokespecial 9, 3) := dla_0 (4, .invokespecial 9, 3) (List.mem_of_getElem? (i := 2) rfl)
theorem d_law_7 : decode code 7 = .ok (.astore_n 1, 1) := dla_0 (7, .astore_n 1, 1) (List.mem_of_getElem? (i := 3) rfl)
theorem d_law_8 : decode code 8 = .ok (.new 10, 3) := dla_0 (8, .new 10, 3) (List.mem_of_getElem? (i := 4) rfl)
theorem d_law_11 : decode code 11 = .ok (.dup, 1) := dla_0 (11, .dup, 1) (List.mem_of_getElem? (i := 5) rfl)
theorem d_law_12 : decode code 12 = .ok (.invokespecial 12, 3) := dla_0 (12, .invokespecial 12, 3) (List.mem_of_getElem? (i := 6) rfl)
theorem d_law_15 : decode code 15 = .ok (.astore_n 2, 1) := dla_0 (15, .astore_n 2, 1) (List.mem_of_getElem? (i := 7) rfl)
theorem d_law_16 : decode code 16 = .ok (.iconst 0, 1) := dla_0 (16, .iconst 0, 1) (List.mem_of_getElem? (i := 8) rfl)
theorem d_law_17 : decode code 17 = .ok (.istore_n 3, 1) := dla_0 (17, .istore_n 3, 1) (List.mem_of_getElem? (i := 9) rfl)
theorem d_law_18 : decode code 18 = .ok (.iload_n 3, 1) := dla_0 (18, .iload_n 3, 1) (List.mem_of_getElem? (i := 10) rfl)
theorem d_law_19 : decode code 19 = .ok (.aload_n 0, 1) := dla_0 (19, .aload_n 0, 1) (List.mem_of_getElem? (i := 11) rfl)
theorem d_law_20 : decode code 20 = .ok (.arraylength, 1) := dla_0 (20, .arraylength, 1) (List.mem_of_getElem? (i := 12) rfl)
theorem d_law_21 : decode code 21 = .ok (.bipush 6, 2) := dla_0 (21, .bipush 6, 2) (List.mem_of_getElem? (i := 13) rfl)
theorem d_law_23 : decode code 23 = .ok (.isub, 1) := dla_0 (23, .isub, 1) (List.mem_of_getElem? (i := 14) rfl)
theorem d_law_24 : decode code 24 = .ok (.if_icmp .gt 1124, 3) := dla_0 (24, .if_icmp .gt 1124, 3) (List.mem_of_getElem? (i := 15) rfl)
theorem d_law_27 : decode code 27 = .ok (.aload_n 0, 1) := dla_0 (27, .aload_n 0, 1) (List.mem_of_getElem? (i := 16) rfl)
theorem d_law_28 : decode code 28 = .ok (.iload_n 3, 1) := dla_0 (28, .iload_n 3, 1) (List.mem_of_getElem? (i := 17) rfl)
theorem d_law_29 : decode code 29 = .ok (.iaload, 1) := dla_0 (29, .iaload, 1) (List.mem_of_getElem? (i := 18) rfl)
theorem d_law_30 : decode code 30 = .ok (.bipush 31, 2) := dla_0 (30, .bipush 31, 2) (List.mem_of_getElem? (i := 19) rfl)
theorem d_law_32 : decode code 32 = .ok (.iand, 1) := dla_0 (32, .iand, 1) (List.mem_of_getElem? (i := 20) rfl)
theorem d_law_33 : decode code 33 = .ok (.tableswitch 1109 0 31 #[143, 206, 229, 242, 255, 288, 321, 354, 387, 420, 443, 466, 489, 502, 555, 588, 621, 634, 677, 730, 753, 786, 819, 862, 915, 958, 971, 994, 1017, 1040, 1063, 1086], 143) := dla_0 (33, .tableswitch 1109 0 31 #[143, 206, 229, 242, 255, 288, 321, 354, 387, 420, 443, 466, 489, 502, 555, 588, 621, 634, 677, 730, 753, 786, 819, 862, 915, 958, 971, 994, 1017, 1040, 1063, 1086], 143) (List.mem_of_getElem? (i := 21) rfl)
theorem d_law_176 : decode code 176 = .ok (.aload_n 1, 1) := dla_0 (176, .aload_n 1, 1) (List.mem_of_getElem? (i := 22) rfl)
theorem d_law_177 : decode code 177 = .ok (.aload_n 0, 1) := dla_0 (177, .aload_n 0, 1) (List.mem_of_getElem? (i := 23) rfl)
theorem d_law_178 : decode code 178 = .ok (.iload_n 3, 1) := dla_0 (178, .iload_n 3, 1) (List.mem_of_getElem? (i := 24) rfl)
theorem d_law_179 : decode code 179 = .ok (.iconst 1, 1) := dla_0 (179, .iconst 1, 1) (List.mem_of_getElem? (i := 25) rfl)
theorem d_law_180 : decode code 180 = .ok (.iadd, 1) := dla_0 (180, .iadd, 1) (List.mem_of_getElem? (i := 26) rfl)
theorem d_law_181 : decode code 181 = .ok (.iaload, 1) := dla_0 (181, .iaload, 1) (List.mem_of_getElem? (i := 27) rfl)
theorem d_law_182 : decode code 182 = .ok (.aload_n 0, 1) := dla_0 (182, .aload_n 0, 1) (List.mem_of_getElem? (i := 28) rfl)
theorem d_law_183 : decode code 183 = .ok (.iload_n 3, 1) := dla_0 (183, .iload_n 3, 1) (List.mem_of_getElem? (i := 29) rfl)
theorem d_law_184 : decode code 184 = .ok (.iconst 2, 1) := dla_0 (184, .iconst 2, 1) (List.mem_of_getElem? (i := 30) rfl)
theorem d_law_185 : decode code 185 = .ok (.iadd, 1) := dla_0 (185, .iadd, 1) (List.mem_of_getElem? (i := 31) rfl)
theorem d_law_186 : decode code 186 = .ok (.iaload, 1) := dla_0 (186, .iaload, 1) (List.mem_of_getElem? (i := 32) rfl)
theorem d_law_187 : decode code 187 = .ok (.aload_n 0, 1) := dla_0 (187, .aload_n 0, 1) (List.mem_of_getElem? (i := 33) rfl)
theorem d_law_188 : decode code 188 = .ok (.iload_n 3, 1) := dla_0 (188, .iload_n 3, 1) (List.mem_of_getElem? (i := 34) rfl)
theorem d_law_189 : decode code 189 = .ok (.iconst 3, 1) := dla_0 (189, .iconst 3, 1) (List.mem_of_getElem? (i := 35) rfl)
theorem d_law_190 : decode code 190 = .ok (.iadd, 1) := dla_0 (190, .iadd, 1) (List.mem_of_getElem? (i := 36) rfl)
theorem d_law_191 : decode code 191 = .ok (.iaload, 1) := dla_0 (191, .iaload, 1) (List.mem_of_getElem? (i := 37) rfl)
theorem d_law_192 : decode code 192 = .ok (.aload_n 0, 1) := dla_0 (192, .aload_n 0, 1) (List.mem_of_getElem? (i := 38) rfl)
theorem d_law_193 : decode code 193 = .ok (.iload_n 3, 1) := dla_0 (193, .iload_n 3, 1) (List.mem_of_getElem? (i := 39) rfl)
def dli_1 : List (Nat × Instr × Nat) := [(194, .iconst 4, 1), (195, .iadd, 1), (196, .iaload, 1), (197, .aload_n 0, 1), (198, .iload_n 3, 1), (199, .iconst 5, 1), (200, .iadd, 1), (201, .iaload, 1), (202, .invokevirtual 13, 3), (205, .pop, 1), (206, .aload_n 2, 1), (207, .aload_n 0, 1), (208, .iload_n 3, 1), (209, .iconst 1, 1), (210, .iadd, 1), (211, .iaload, 1), (212, .aload_n 0, 1), (213, .iload_n 3, 1), (214, .iconst 2, 1), (215, .iadd, 1), (216, .iaload, 1), (217, .aload_n 0, 1), (218, .iload_n 3, 1), (219, .iconst 3, 1), (220, .iadd, 1), (221, .iaload, 1), (222, .aload_n 0, 1), (223, .iload_n 3, 1), (224, .iconst 4, 1), (225, .iadd, 1), (226, .iaload, 1), (227, .aload_n 0, 1), (228, .iload_n 3, 1), (229, .iconst 5, 1), (230, .iadd, 1), (231, .iaload, 1), (232, .invokevirtual 17, 3), (235, .pop, 1), (236, .goto 906, 3), (239, .aload_n 1, 1)]
set_option maxRecDepth 100000 in
theorem dla_1 : ∀ q ∈ dli_1, decode code q.1 = .ok q.2 := by decide +kernel
theorem d_law_194 : decode code 194 = .ok (.iconst 4, 1) := dla_1 (194, .iconst 4, 1) (List.mem_of_getElem? (i := 0) rfl)
theorem d_law_195 : decode code 195 = .ok (.iadd, 1) := dla_1 (195, .iadd, 1) (List.mem_of_getElem? (i := 1) rfl)
theorem d_law_196 : decode code 196 = .ok (.iaload, 1) := dla_1 (196, .iaload, 1) (List.mem_of_getElem? (i := 2) rfl)
theorem d_law_197 : decode code 197 = .ok (.aload_n 0, 1) := dla_1 (197, .aload_n 0, 1) (List.mem_of_getElem? (i := 3) rfl)
theorem d_law_198 : decode code 198 = .ok (.iload_n 3, 1) := dla_1 (198, .iload_n 3, 1) (List.mem_of_getElem? (i := 4) rfl)
theorem d_law_199 : decode code 199 = .ok (.iconst 5, 1) := dla_1 (199, .iconst 5, 1) (List.mem_of_getElem? (i := 5) rfl)
theorem d_law_200 : decode code 200 = .ok (.iadd, 1) := dla_1 (200, .iadd, 1) (List.mem_of_getElem? (i := 6) rfl)
theorem d_law_201 : decode code 201 = .ok (.iaload, 1) := dla_1 (201, .iaload, 1) (List.mem_of_getElem? (i := 7) rfl)
theorem d_law_202 : decode code 202 = .ok (.invokevirtual 13, 3) := dla_1 (202, .invokevirtual 13, 3) (List.mem_of_getElem? (i := 8) rfl)
theorem d_law_205 : decode code 205 = .ok (.pop, 1) := dla_1 (205, .pop, 1) (List.mem_of_getElem? (i := 9) rfl)
theorem d_law_206 : decode code 206 = .ok (.aload_n 2, 1) := dla_1 (206, .aload_n 2, 1) (List.mem_of_getElem? (i := 10) rfl)
theorem d_law_207 : decode code 207 = .ok (.aload_n 0, 1) := dla_1 (207, .aload_n 0, 1) (List.mem_of_getElem? (i := 11) rfl)
theorem d_law_208 : decode code 208 = .ok (.iload_n 3, 1) := dla_1 (208, .iload_n 3, 1) (List.mem_of_getElem? (i := 12) rfl)
theorem d_law_209 : decode code 209 = .ok (.iconst 1, 1) := dla_1 (209, .iconst 1, 1) (List.mem_of_getElem? (i := 13) rfl)
theorem d_law_210 : decode code 210 = .ok (.iadd, 1) := dla_1 (210, .iadd, 1) (List.mem_of_getElem? (i := 14) rfl)
theorem d_law_211 : decode code 211 = .ok (.iaload, 1) := dla_1 (211, .iaload, 1) (List.mem_of_getElem? (i := 15) rfl)
theorem d_law_212 : decode code 212 = .ok (.aload_n 0, 1) := dla_1 (212, .aload_n 0, 1) (List.mem_of_getElem? (i := 16) rfl)
theorem d_law_213 : decode code 213 = .ok (.iload_n 3, 1) := dla_1 (213, .iload_n 3, 1) (List.mem_of_getElem? (i := 17) rfl)
theorem d_law_214 : decode code 214 = .ok (.iconst 2, 1) := dla_1 (214, .iconst 2, 1) (List.mem_of_getElem? (i := 18) rfl)
theorem d_law_215 : decode code 215 = .ok (.iadd, 1) := dla_1 (215, .iadd, 1) (List.mem_of_getElem? (i := 19) rfl)
theorem d_law_216 : decode code 216 = .ok (.iaload, 1) := dla_1 (216, .iaload, 1) (List.mem_of_getElem? (i := 20) rfl)
theorem d_law_217 : decode code 217 = .ok (.aload_n 0, 1) := dla_1 (217, .aload_n 0, 1) (List.mem_of_getElem? (i := 21) rfl)
theorem d_law_218 : decode code 218 = .ok (.iload_n 3, 1) := dla_1 (218, .iload_n 3, 1) (List.mem_of_getElem? (i := 22) rfl)
theorem d_law_219 : decode code 219 = .ok (.iconst 3, 1) := dla_1 (219, .iconst 3, 1) (List.mem_of_getElem? (i := 23) rfl)
theorem d_law_220 : decode code 220 = .ok (.iadd, 1) := dla_1 (220, .iadd, 1) (List.mem_of_getElem? (i := 24) rfl)
theorem d_law_221 : decode code 221 = .ok (.iaload, 1) := dla_1 (221, .iaload, 1) (List.mem_of_getElem? (i := 25) rfl)
theorem d_law_222 : decode code 222 = .ok (.aload_n 0, 1) := dla_1 (222, .aload_n 0, 1) (List.mem_of_getElem? (i := 26) rfl)
theorem d_law_223 : decode code 223 = .ok (.iload_n 3, 1) := dla_1 (223, .iload_n 3, 1) (List.mem_of_getElem? (i := 27) rfl)
theorem d_law_224 : decode code 224 = .ok (.iconst 4, 1) := dla_1 (224, .iconst 4, 1) (List.mem_of_getElem? (i := 28) rfl)
theorem d_law_225 : decode code 225 = .ok (.iadd, 1) := dla_1 (225, .iadd, 1) (List.mem_of_getElem? (i := 29) rfl)
theorem d_law_226 : decode code 226 = .ok (.iaload, 1) := dla_1 (226, .iaload, 1) (List.mem_of_getElem? (i := 30) rfl)
theorem d_law_227 : decode code 227 = .ok (.aload_n 0, 1) := dla_1 (227, .aload_n 0, 1) (List.mem_of_getElem? (i := 31) rfl)
theorem d_law_228 : decode code 228 = .ok (.iload_n 3, 1) := dla_1 (228, .iload_n 3, 1) (List.mem_of_getElem? (i := 32) rfl)
theorem d_law_229 : decode code 229 = .ok (.iconst 5, 1) := dla_1 (229, .iconst 5, 1) (List.mem_of_getElem? (i := 33) rfl)
theorem d_law_230 : decode code 230 = .ok (.iadd, 1) := dla_1 (230, .iadd, 1) (List.mem_of_getElem? (i := 34) rfl)
theorem d_law_231 : decode code 231 = .ok (.iaload, 1) := dla_1 (231, .iaload, 1) (List.mem_of_getElem? (i := 35) rfl)
theorem d_law_232 : decode code 232 = .ok (.invokevirtual 17, 3) := dla_1 (232, .invokevirtual 17, 3) (List.mem_of_getElem? (i := 36) rfl)
theorem d_law_235 : decode code 235 = .ok (.pop, 1) := dla_1 (235, .pop, 1) (List.mem_of_getElem? (i := 37) rfl)
theorem d_law_236 : decode code 236 = .ok (.goto 906, 3) := dla_1 (236, .goto 906, 3) (List.mem_of_getElem? (i := 38) rfl)
theorem d_law_239 : decode code 239 = .ok (.aload_n 1, 1) := dla_1 (239, .aload_n 1, 1) (List.mem_of_getElem? (i := 39) rfl)
def dli_2 : List (Nat × Instr × Nat) := [(240, .aload_n 0, 1), (241, .iload_n 3, 1), (242, .iconst 1, 1), (243, .iadd, 1), (244, .iaload, 1), (245, .invokevirtual 18, 3), (248, .pop, 1), (249, .aload_n 2, 1), (250, .aload_n 0, 1), (251, .iload_n 3, 1), (252, .iconst 1, 1), (253, .iadd, 1), (254, .iaload, 1), (255, .invokevirtual 22, 3), (258, .pop, 1), (259, .goto 883, 3), (262, .aload_n 1, 1), (263, .invokevirtual 23, 3), (266, .pop, 1), (267, .aload_n 2, 1), (268, .invokevirtual 27, 3), (271, .pop, 1), (272, .goto 870, 3), (275, .aload_n 1, 1), (276, .invokevirtual 28, 3), (279, .pop, 1), (280, .aload_n 2, 1), (281, .invokevirtual 31, 3), (284, .pop, 1), (285, .goto 857, 3), (288, .aload_n 1, 1), (289, .aload_n 0, 1), (290, .iload_n 3, 1), (291, .iconst 1, 1), (292, .iadd, 1), (293, .iaload, 1), (294, .aload_n 0, 1), (295, .iload_n 3, 1), (296, .iconst 2, 1), (297, .iadd, 1)]
set_option maxRecDepth 100000 in
theorem dla_2 : ∀ q ∈ dli_2, decode code q.1 = .ok q.2 := by decide +kernel
theorem d_law_240 : decode code 240 = .ok (.aload_n 0, 1) := dla_2 (240, .aload_n 0, 1) (List.mem_of_getElem? (i := 0) rfl)
theorem d_law_241 : decode code 241 = .ok (.iload_n 3, 1) := dla_2 (241, .iload_n 3, 1) (List.mem_of_getElem? (i := 1) rfl)
theorem d_law_242 : decode code 242 = .ok (.iconst 1, 1) := dla_2 (242, .iconst 1, 1) (List.mem_of_getElem? (i := 2) rfl)
theorem d_law_243 : decode code 243 = .ok (.iadd, 1) := dla_2 (243, .iadd, 1) (List.mem_of_getElem? (i := 3) rfl)
theorem d_law_244 : decode code 244 = .ok (.iaload, 1) := dla_2 (244, .iaload, 1) (List.mem_of_getElem? (i := 4) rfl)
theorem d_law_245 : decode code 245 = .ok (.invokevirtual 18, 3) := dla_2 (245, .invokevirtual 18, 3) (List.mem_of_getElem? (i := 5) rfl)
theorem d_law_248 : decode code 248 = .ok (.pop, 1) := dla_2 (248, .pop, 1) (List.mem_of_getElem? (i := 6) rfl)
theorem d_law_249 : decode code 249 = .ok (.aload_n 2, 1) := dla_2 (249, .aload_n 2, 1) (List.mem_of_getElem? (i := 7) rfl)
theorem d_law_250 : decode code 250 = .ok (.aload_n 0, 1) := dla_2 (250, .aload_n 0, 1) (List.mem_of_getElem? (i := 8) rfl)
theorem d_law_251 : decode code 251 = .ok (.iload_n 3, 1) := dla_2 (251, .iload_n 3, 1) (List.mem_of_getElem? (i := 9) rfl)
theorem d_law_252 : decode code 252 = .ok (.iconst 1, 1) := dla_2 (252, .iconst 1, 1) (List.mem_of_getElem? (i := 10) rfl)
theorem d_law_253 : decode code 253 = .ok (.iadd, 1) := dla_2 (253, .iadd, 1) (List.mem_of_getElem? (i := 11) rfl)
theorem d_law_254 : decode code 254 = .ok (.iaload, 1) := dla_2 (254, .iaload, 1) (List.mem_of_getElem? (i := 12) rfl)
theorem d_law_255 : decode code 255 = .ok (.invokevirtual 22, 3) := dla_2 (255, .invokevirtual 22, 3) (List.mem_of_getElem? (i := 13) rfl)
theorem d_law_258 : decode code 258 = .ok (.pop, 1) := dla_2 (258, .pop, 1) (List.mem_of_getElem? (i := 14) rfl)
theorem d_law_259 : decode code 259 = .ok (.goto 883, 3) := dla_2 (259, .goto 883, 3) (List.mem_of_getElem? (i := 15) rfl)
theorem d_law_262 : decode code 262 = .ok (.aload_n 1, 1) := dla_2 (262, .aload_n 1, 1) (List.mem_of_getElem? (i := 16) rfl)
theorem d_law_263 : decode code 263 = .ok (.invokevirtual 23, 3) := dla_2 (263, .invokevirtual 23, 3) (List.mem_of_getElem? (i := 17) rfl)
theorem d_law_266 : decode code 266 = .ok (.pop, 1) := dla_2 (266, .pop, 1) (List.mem_of_getElem? (i := 18) rfl)
theorem d_law_267 : decode code 267 = .ok (.aload_n 2, 1) := dla_2 (267, .aload_n 2, 1) (List.mem_of_getElem? (i := 19) rfl)
theorem d_law_268 : decode code 268 = .ok (.invokevirtual 27, 3) := dla_2 (268, .invokevirtual 27, 3) (List.mem_of_getElem? (i := 20) rfl)
theorem d_law_271 : decode code 271 = .ok (.pop, 1) := dla_2 (271, .pop, 1) (List.mem_of_getElem? (i := 21) rfl)
theorem d_law_272 : decode code 272 = .ok (.goto 870, 3) := dla_2 (272, .goto 870, 3) (List.mem_of_getElem? (i := 22) rfl)
theorem d_law_275 : decode code 275 = .ok (.aload_n 1, 1) := dla_2 (275, .aload_n 1, 1) (List.mem_of_getElem? (i := 23) rfl)
theorem d_law_276 : decode code 276 = .ok (.invokevirtual 28, 3) := dla_2 (276, .invokevirtual 28, 3) (List.mem_of_getElem? (i := 24) rfl)
theorem d_law_279 : decode code 279 = .ok (.pop, 1) := dla_2 (279, .pop, 1) (List.mem_of_getElem? (i := 25) rfl)
theorem d_law_280 : decode code 280 = .ok (.aload_n 2, 1) := dla_2 (280, .aload_n 2, 1) (List.mem_of_getElem? (i := 26) rfl)
theorem d_law_281 : decode code 281 = .ok (.invokevirtual 31, 3) := dla_2 (281, .invokevirtual 31, 3) (List.mem_of_getElem? (i := 27) rfl)
theorem d_law_284 : decode code 284 = .ok (.pop, 1) := dla_2 (284, .pop, 1) (List.mem_of_getElem? (i := 28) rfl)
theorem d_law_285 : decode code 285 = .ok (.goto 857, 3) := dla_2 (285, .goto 857, 3) (List.mem_of_getElem? (i := 29) rfl)
theorem d_law_288 : decode code 288 = .ok (.aload_n 1, 1) := dla_2 (288, .aload_n 1, 1) (List.mem_of_getElem? (i := 30) rfl)
theorem d_law_289 : decode code 289 = .ok (.aload_n 0, 1) := dla_2 (289, .aload_n 0, 1) (List.mem_of_getElem? (i := 31) rfl)
theorem d_law_290 : decode code 290 = .ok (.iload_n 3, 1) := dla_2 (290, .iload_n 3, 1) (List.mem_of_getElem? (i := 32) rfl)
theorem d_law_291 : decode code 291 = .ok (.iconst 1, 1) := dla_2 (291, .iconst 1, 1) (List.mem_of_getElem? (i := 33) rfl)
theorem d_law_292 : decode code 292 = .ok (.iadd, 1) := dla_2 (292, .iadd, 1) (List.mem_of_getElem? (i := 34) rfl)
theorem d_law_293 : decode code 293 = .ok (.iaload, 1) := dla_2 (293, .iaload, 1) (List.mem_of_getElem? (i := 35) rfl)
theorem d_law_294 : decode code 294 = .ok (.aload_n 0, 1) := dla_2 (294, .aload_n 0, 1) (List.mem_of_getElem? (i := 36) rfl)
theorem d_law_295 : decode code 295 = .ok (.iload_n 3, 1) := dla_2 (295, .iload_n 3, 1) (List.mem_of_getElem? (i := 37) rfl)
theorem d_law_296 : decode code 296 = .ok (.iconst 2, 1) := dla_2 (296, .iconst 2, 1) (List.mem_of_getElem? (i := 38) rfl)
theorem d_law_297 : decode code 297 = .ok (.iadd, 1) := dla_2 (297, .iadd, 1) (List.mem_of_getElem? (i := 39) rfl)
def dli_3 : List (Nat × Instr × Nat) := [(298, .iaload, 1), (299, .invokevirtual 32, 3), (302, .pop, 1), (303, .aload_n 2, 1), (304, .aload_n 0, 1), (305, .iload_n 3, 1), (306, .iconst 1, 1), (307, .iadd, 1), (308, .iaload, 1), (309, .aload_n 0, 1), (310, .iload_n 3, 1), (311, .iconst 2, 1), (312, .iadd, 1), (313, .iaload, 1), (314, .invokevirtual 36, 3), (317, .pop, 1), (318, .goto 824, 3), (321, .aload_n 1, 1), (322, .aload_n 0, 1), (323, .iload_n 3, 1), (324, .iconst 1, 1), (325, .iadd, 1), (326, .iaload, 1), (327, .aload_n 0, 1), (328, .iload_n 3, 1), (329, .iconst 2, 1), (330, .iadd, 1), (331, .iaload, 1), (332, .invokevirtual 37, 3), (335, .aload_n 2, 1), (336, .aload_n 0, 1), (337, .iload_n 3, 1), (338, .iconst 1, 1), (339, .iadd, 1), (340, .iaload, 1), (341, .aload_n 0, 1), (342, .iload_n 3, 1), (343, .iconst 2, 1), (344, .iadd, 1), (345, .iaload, 1)]
set_option maxRecDepth 100000 in
theorem dla_3 : ∀ q ∈ dli_3, decode code q.1 = .ok q.2 := by decide +kernel
theorem d_law_298 : decode code 298 = .ok (.iaload, 1) := dla_3 (298, .iaload, 1) (List.mem_of_getElem? (i := 0) rfl)
theorem d_law_299 : decode code 299 = .ok (.invokevirtual 32, 3) := dla_3 (299, .invokevirtual 32, 3) (List.mem_of_getElem? (i := 1) rfl)
theorem d_law_302 : decode code 302 = .ok (.pop, 1) := dla_3 (302, .pop, 1) (List.mem_of_getElem? (i := 2) rfl)
theorem d_law_303 : decode code 303 = .ok (.aload_n 2, 1) := dla_3 (303, .aload_n 2, 1) (List.mem_of_getElem? (i := 3) rfl)
theorem d_law_304 : decode code 304 = .ok (.aload_n 0, 1) := dla_3 (304, .aload_n 0, 1) (List.mem_of_getElem? (i := 4) rfl)
theorem d_law_305 : decode code 305 = .ok (.iload_n 3, 1) := dla_3 (305, .iload_n 3, 1) (List.mem_of_getElem? (i := 5) rfl)
theorem d_law_306 : decode code 306 = .ok (.iconst 1, 1) := dla_3 (306, .iconst 1, 1) (List.mem_of_getElem? (i := 6) rfl)
theorem d_law_307 : decode code 307 = .ok (.iadd, 1) := dla_3 (307, .iadd, 1) (List.mem_of_getElem? (i := 7) rfl)
theorem d_law_308 : decode code 308 = .ok (.iaload, 1) := dla_3 (308, .iaload, 1) (List.mem_of_getElem? (i := 8) rfl)
theorem d_law_309 : decode code 309 = .ok (.aload_n 0, 1) := dla_3 (309, .aload_n 0, 1) (List.mem_of_getElem? (i := 9) rfl)
theorem d_law_310 : decode code 310 = .ok (.iload_n 3, 1) := dla_3 (310, .iload_n 3, 1) (List.mem_of_getElem? (i := 10) rfl)
theorem d_law_311 : decode code 311 = .ok (.iconst 2, 1) := dla_3 (311, .iconst 2, 1) (List.mem_of_getElem? (i := 11) rfl)
theorem d_law_312 : decode code 312 = .ok (.iadd, 1) := dla_3 (312, .iadd, 1) (List.mem_of_getElem? (i := 12) rfl)
theorem d_law_313 : decode code 313 = .ok (.iaload, 1) := dla_3 (313, .iaload, 1) (List.mem_of_getElem? (i := 13) rfl)
theorem d_law_314 : decode code 314 = .ok (.invokevirtual 36, 3) := dla_3 (314, .invokevirtual 36, 3) (List.mem_of_getElem? (i := 14) rfl)
theorem d_law_317 : decode code 317 = .ok (.pop, 1) := dla_3 (317, .pop, 1) (List.mem_of_getElem? (i := 15) rfl)
theorem d_law_318 : decode code 318 = .ok (.goto 824, 3) := dla_3 (318, .goto 824, 3) (List.mem_of_getElem? (i := 16) rfl)
theorem d_law_321 : decode code 321 = .ok (.aload_n 1, 1) := dla_3 (321, .aload_n 1, 1) (List.mem_of_getElem? (i := 17) rfl)
theorem d_law_322 : decode code 322 = .ok (.aload_n 0, 1) := dla_3 (322, .aload_n 0, 1) (List.mem_of_getElem? (i := 18) rfl)
theorem d_law_323 : decode code 323 = .ok (.iload_n 3, 1) := dla_3 (323, .iload_n 3, 1) (List.mem_of_getElem? (i := 19) rfl)
theorem d_law_324 : decode code 324 = .ok (.iconst 1, 1) := dla_3 (324, .iconst 1, 1) (List.mem_of_getElem? (i := 20) rfl)
theorem d_law_325 : decode code 325 = .ok (.iadd, 1) := dla_3 (325, .iadd, 1) (List.mem_of_getElem? (i := 21) rfl)
theorem d_law_326 : decode code 326 = .ok (.iaload, 1) := dla_3 (326, .iaload, 1) (List.mem_of_getElem? (i := 22) rfl)
theorem d_law_327 : decode code 327 = .ok (.aload_n 0, 1) := dla_3 (327, .aload_n 0, 1) (List.mem_of_getElem? (i := 23) rfl)
theorem d_law_328 : decode code 328 = .ok (.iload_n 3, 1) := dla_3 (328, .iload_n 3, 1) (List.mem_of_getElem? (i := 24) rfl)
theorem d_law_329 : decode code 329 = .ok (.iconst 2, 1) := dla_3 (329, .iconst 2, 1) (List.mem_of_getElem? (i := 25) rfl)
theorem d_law_330 : decode code 330 = .ok (.iadd, 1) := dla_3 (330, .iadd, 1) (List.mem_of_getElem? (i := 26) rfl)
theorem d_law_331 : decode code 331 = .ok (.iaload, 1) := dla_3 (331, .iaload, 1) (List.mem_of_getElem? (i := 27) rfl)
theorem d_law_332 : decode code 332 = .ok (.invokevirtual 37, 3) := dla_3 (332, .invokevirtual 37, 3) (List.mem_of_getElem? (i := 28) rfl)
theorem d_law_335 : decode code 335 = .ok (.aload_n 2, 1) := dla_3 (335, .aload_n 2, 1) (List.mem_of_getElem? (i := 29) rfl)
theorem d_law_336 : decode code 336 = .ok (.aload_n 0, 1) := dla_3 (336, .aload_n 0, 1) (List.mem_of_getElem? (i := 30) rfl)
theorem d_law_337 : decode code 337 = .ok (.iload_n 3, 1) := dla_3 (337, .iload_n 3, 1) (List.mem_of_getElem? (i := 31) rfl)
theorem d_law_338 : decode code 338 = .ok (.iconst 1, 1) := dla_3 (338, .iconst 1, 1) (List.mem_of_getElem? (i := 32) rfl)
theorem d_law_339 : decode code 339 = .ok (.iadd, 1) := dla_3 (339, .iadd, 1) (List.mem_of_getElem? (i := 33) rfl)
theorem d_law_340 : decode code 340 = .ok (.iaload, 1) := dla_3 (340, .iaload, 1) (List.mem_of_getElem? (i := 34) rfl)
theorem d_law_341 : decode code 341 = .ok (.aload_n 0, 1) := dla_3 (341, .aload_n 0, 1) (List.mem_of_getElem? (i := 35) rfl)
theorem d_law_342 : decode code 342 = .ok (.iload_n 3, 1) := dla_3 (342, .iload_n 3, 1) (List.mem_of_getElem? (i := 36) rfl)
theorem d_law_343 : decode code 343 = .ok (.iconst 2, 1) := dla_3 (343, .iconst 2, 1) (List.mem_of_getElem? (i := 37) rfl)
theorem d_law_344 : decode code 344 = .ok (.iadd, 1) := dla_3 (344, .iadd, 1) (List.mem_of_getElem? (i := 38) rfl)
theorem d_law_345 : decode code 345 = .ok (.iaload, 1) := dla_3 (345, .iaload, 1) (List.mem_of_getElem? (i := 39) rfl)
def dli_4 : List (Nat × Instr × Nat) := [(346, .invokevirtual 40, 3), (349, .if_icmp .eq 793, 3), (352, .iconst 0, 1), (353, .ireturn, 1), (354, .aload_n 1, 1), (355, .aload_n 0, 1), (356, .iload_n 3, 1), (357, .iconst 1, 1), (358, .iadd, 1), (359, .iaload, 1), (360, .aload_n 0, 1), (361, .iload_n 3, 1), (362, .iconst 2, 1), (363, .iadd, 1), (364, .iaload, 1), (365, .invokevirtual 41, 3), (368, .pop, 1), (369, .aload_n 2, 1), (370, .aload_n 0, 1), (371, .iload_n 3, 1), (372, .iconst 1, 1), (373, .iadd, 1), (374, .iaload, 1), (375, .aload_n 0, 1), (376, .iload_n 3, 1), (377, .iconst 2, 1), (378, .iadd, 1), (379, .iaload, 1), (380, .invokevirtual 44, 3), (383, .pop, 1), (384, .goto 758, 3), (387, .aload_n 1, 1), (388, .aload_n 0, 1), (389, .iload_n 3, 1), (390, .iconst 1, 1), (391, .iadd, 1), (392, .iaload, 1), (393, .aload_n 0, 1), (394, .iload_n 3, 1), (395, .iconst 2, 1)]
set_option maxRecDepth 100000 in
theorem dla_4 : ∀ q ∈ dli_4, decode code q.1 = .ok q.2 := by decide +kernel
theorem d_law_346 : decode code 346 = .ok (.invokevirtual 40, 3) := dla_4 (346, .invokevirtual 40, 3) (List.mem_of_getElem? (i := 0) rfl)
theorem d_law_349 : decode code 349 = .ok (.if_icmp .eq 793, 3) := dla_4 (349, .if_icmp .eq 793, 3) (List.mem_of_getElem? (i := 1) rfl)
theorem d_law_352 : decode code 352 = .ok (.iconst 0, 1) := dla_4 (352, .iconst 0, 1) (List.mem_of_getElem? (i := 2) rfl)
theorem d_law_353 : decode code 353 = .ok (.ireturn, 1) := dla_4 (353, .ireturn, 1) (List.mem_of_getElem? (i := 3) rfl)
theorem d_law_354 : decode code 354 = .ok (.aload_n 1, 1) := dla_4 (354, .aload_n 1, 1) (List.mem_of_getElem? (i := 4) rfl)
theorem d_law_355 : decode code 355 = .ok (.aload_n 0, 1) := dla_4 (355, .aload_n 0, 1) (List.mem_of_getElem? (i := 5) rfl)
theorem d_law_356 : decode code 356 = .ok (.iload_n 3, 1) := dla_4 (356, .iload_n 3, 1) (List.mem_of_getElem? (i := 6) rfl)
theorem d_law_357 : decode code 357 = .ok (.iconst 1, 1) := dla_4 (357, .iconst 1, 1) (List.mem_of_getElem? (i := 7) rfl)
theorem d_law_358 : decode code 358 = .ok (.iadd, 1) := dla_4 (358, .iadd, 1) (List.mem_of_getElem? (i := 8) rfl)
theorem d_law_359 : decode code 359 = .ok (.iaload, 1) := dla_4 (359, .iaload, 1) (List.mem_of_getElem? (i := 9) rfl)
theorem d_law_360 : decode code 360 = .ok (.aload_n 0, 1) := dla_4 (360, .aload_n 0, 1) (List.mem_of_getElem? (i := 10) rfl)
theorem d_law_361 : decode code 361 = .ok (.iload_n 3, 1) := dla_4 (361, .iload_n 3, 1) (List.mem_of_getElem? (i := 11) rfl)
theorem d_law_362 : decode code 362 = .ok (.iconst 2, 1) := dla_4 (362, .iconst 2, 1) (List.mem_of_getElem? (i := 12) rfl)
theorem d_law_363 : decode code 363 = .ok (.iadd, 1) := dla_4 (363, .iadd, 1) (List.mem_of_getElem? (i := 13) rfl)
theorem d_law_364 : decode code 364 = .ok (.iaload, 1) := dla_4 (364, .iaload, 1) (List.mem_of_getElem? (i := 14) rfl)
theorem d_law_365 : decode code 365 = .ok (.invokevirtual 41, 3) := dla_4 (365, .invokevirtual 41, 3) (List.mem_of_getElem? (i := 15) rfl)
theorem d_law_368 : decode code 368 = .ok (.pop, 1) := dla_4 (368, .pop, 1) (List.mem_of_getElem? (i := 16) rfl)
theorem d_law_369 : decode code 369 = .ok (.aload_n 2, 1) := dla_4 (369, .aload_n 2, 1) (List.mem_of_getElem? (i := 17) rfl)
theorem d_law_370 : decode code 370 = .ok (.aload_n 0, 1) := dla_4 (370, .aload_n 0, 1) (List.mem_of_getElem? (i := 18) rfl)
theorem d_law_371 : decode code 371 = .ok (.iload_n 3, 1) := dla_4 (371, .iload_n 3, 1) (List.mem_of_getElem? (i := 19) rfl)
theorem d_law_372 : decode code 372 = .ok (.iconst 1, 1) := dla_4 (372, .iconst 1, 1) (List.mem_of_getElem? (i := 20) rfl)
theorem d_law_373 : decode code 373 = .ok (.iadd, 1) := dla_4 (373, .iadd, 1) (List.mem_of_getElem? (i := 21) rfl)
theorem d_law_374 : decode code 374 = .ok (.iaload, 1) := dla_4 (374, .iaload, 1) (List.mem_of_getElem? (i := 22) rfl)
theorem d_law_375 : decode code 375 = .ok (.aload_n 0, 1) := dla_4 (375, .aload_n 0, 1) (List.mem_of_getElem? (i := 23) rfl)
theorem d_law_376 : decode code 376 = .ok (.iload_n 3, 1) := dla_4 (376, .iload_n 3, 1) (List.mem_of_getElem? (i := 24) rfl)
theorem d_law_377 : decode code 377 = .ok (.iconst 2, 1) := dla_4 (377, .iconst 2, 1) (List.mem_of_getElem? (i := 25) rfl)
theorem d_law_378 : decode code 378 = .ok (.iadd, 1) := dla_4 (378, .iadd, 1) (List.mem_of_getElem? (i := 26) rfl)
theorem d_law_379 : decode code 379 = .ok (.iaload, 1) := dla_4 (379, .iaload, 1) (List.mem_of_getElem? (i := 27) rfl)
theorem d_law_380 : decode code 380 = .ok (.invokevirtual 44, 3) := dla_4 (380, .invokevirtual 44, 3) (List.mem_of_getElem? (i := 28) rfl)
theorem d_law_383 : decode code 383 = .ok (.pop, 1) := dla_4 (383, .pop, 1) (List.mem_of_getElem? (i := 29) rfl)
theorem d_law_384 : decode code 384 = .ok (.goto 758, 3) := dla_4 (384, .goto 758, 3) (List.mem_of_getElem? (i := 30) rfl)
theorem d_law_387 : decode code 387 = .ok (.aload_n 1, 1) := dla_4 (387, .aload_n 1, 1) (List.mem_of_getElem? (i := 31) rfl)
theorem d_law_388 : decode code 388 = .ok (.aload_n 0, 1) := dla_4 (388, .aload_n 0, 1) (List.mem_of_getElem? (i := 32) rfl)
theorem d_law_389 : decode code 389 = .ok (.iload_n 3, 1) := dla_4 (389, .iload_n 3, 1) (List.mem_of_getElem? (i := 33) rfl)
theorem d_law_390 : decode code 390 = .ok (.iconst 1, 1) := dla_4 (390, .iconst 1, 1) (List.mem_of_getElem? (i := 34) rfl)
theorem d_law_391 : decode code 391 = .ok (.iadd, 1) := dla_4 (391, .iadd, 1) (List.mem_of_getElem? (i := 35) rfl)
theorem d_law_392 : decode code 392 = .ok (.iaload, 1) := dla_4 (392, .iaload, 1) (List.mem_of_getElem? (i := 36) rfl)
theorem d_law_393 : decode code 393 = .ok (.aload_n 0, 1) := dla_4 (393, .aload_n 0, 1) (List.mem_of_getElem? (i := 37) rfl)
theorem d_law_394 : decode code 394 = .ok (.iload_n 3, 1) := dla_4 (394, .iload_n 3, 1) (List.mem_of_getElem? (i := 38) rfl)
theorem d_law_395 : decode code 395 = .ok (.iconst 2, 1) := dla_4 (395, .iconst 2, 1) (List.mem_of_getElem? (i := 39) rfl)
def dli_5 : List (Nat × Instr × Nat) := [(396, .iadd, 1), (397, .iaload, 1), (398, .invokevirtual 45, 3), (401, .pop, 1), (402, .aload_n 2, 1), (403, .aload_n 0, 1), (404, .iload_n 3, 1), (405, .iconst 1, 1), (406, .iadd, 1), (407, .iaload, 1), (408, .aload_n 0, 1), (409, .iload_n 3, 1), (410, .iconst 2, 1), (411, .iadd, 1), (412, .iaload, 1), (413, .invokevirtual 48, 3), (416, .pop, 1), (417, .goto 725, 3), (420, .aload_n 1, 1), (421, .aload_n 0, 1), (422, .iload_n 3, 1), (423, .iconst 1, 1), (424, .iadd, 1), (425, .iaload, 1), (426, .aload_n 0, 1), (427, .iload_n 3, 1), (428, .iconst 2, 1), (429, .iadd, 1), (430, .iaload, 1), (431, .invokevirtual 49, 3), (434, .pop, 1), (435, .aload_n 2, 1), (436, .aload_n 0, 1), (437, .iload_n 3, 1), (438, .iconst 1, 1), (439, .iadd, 1), (440, .iaload, 1), (441, .aload_n 0, 1), (442, .iload_n 3, 1), (443, .iconst 2, 1)]
set_option maxRecDepth 100000 in
theorem dla_5 : ∀ q ∈ dli_5, decode code q.1 = .ok q.2 := by decide +kernel
theorem d_law_396 : decode code 396 = .ok (.iadd, 1) := dla_5 (396, .iadd, 1) (List.mem_of_getElem? (i := 0) rfl)
theorem d_law_397 : decode code 397 = .ok (.iaload, 1) := dla_5 (397, .iaload, 1) (List.mem_of_getElem? (i := 1) rfl)
theorem d_law_398 : decode code 398 = .ok (.invokevirtual 45, 3) := dla_5 (398, .invokevirtual 45, 3) (List.mem_of_getElem? (i := 2) rfl)
theorem d_law_401 : decode code 401 = .ok (.pop, 1) := dla_5 (401, .pop, 1) (List.mem_of_getElem? (i := 3) rfl)
theorem d_law_402 : decode code 402 = .ok (.aload_n 2, 1) := dla_5 (402, .aload_n 2, 1) (List.mem_of_getElem? (i := 4) rfl)
theorem d_law_403 : decode code 403 = .ok (.aload_n 0, 1) := dla_5 (403, .aload_n 0, 1) (List.mem_of_getElem? (i := 5) rfl)
theorem d_law_404 : decode code 404 = .ok (.iload_n 3, 1) := dla_5 (404, .iload_n 3, 1) (List.mem_of_getElem? (i := 6) rfl)
theorem d_law_405 : decode code 405 = .ok (.iconst 1, 1) := dla_5 (405, .iconst 1, 1) (List.mem_of_getElem? (i := 7) rfl)
theorem d_law_406 : decode code 406 = .ok (.iadd, 1) := dla_5 (406, .iadd, 1) (List.mem_of_getElem? (i := 8) rfl)
theorem d_law_407 : decode code 407 = .ok (.iaload, 1) := dla_5 (407, .iaload, 1) (List.mem_of_getElem? (i := 9) rfl)
theorem d_law_408 : decode code 408 = .ok (.aload_n 0, 1) := dla_5 (408, .aload_n 0, 1) (List.mem_of_getElem? (i := 10) rfl)
theorem d_law_409 : decode code 409 = .ok (.iload_n 3, 1) := dla_5 (409, .iload_n 3, 1) (List.mem_of_getElem? (i := 11) rfl)
theorem d_law_410 : decode code 410 = .ok (.iconst 2, 1) := dla_5 (410, .iconst 2, 1) (List.mem_of_getElem? (i := 12) rfl)
theorem d_law_411 : decode code 411 = .ok (.iadd, 1) := dla_5 (411, .iadd, 1) (List.mem_of_getElem? (i := 13) rfl)
theorem d_law_412 : decode code 412 = .ok (.iaload, 1) := dla_5 (412, .iaload, 1) (List.mem_of_getElem? (i := 14) rfl)
theorem d_law_413 : decode code 413 = .ok (.invokevirtual 48, 3) := dla_5 (413, .invokevirtual 48, 3) (List.mem_of_getElem? (i := 15) rfl)
theorem d_law_416 : decode code 416 = .ok (.pop, 1) := dla_5 (416, .pop, 1) (List.mem_of_getElem? (i := 16) rfl)
theorem d_law_417 : decode code 417 = .ok (.goto 725, 3) := dla_5 (417, .goto 725, 3) (List.mem_of_getElem? (i := 17) rfl)
theorem d_law_420 : decode code 420 = .ok (.aload_n 1, 1) := dla_5 (420, .aload_n 1, 1) (List.mem_of_getElem? (i := 18) rfl)
theorem d_law_421 : decode code 421 = .ok (.aload_n 0, 1) := dla_5 (421, .aload_n 0, 1) (List.mem_of_getElem? (i := 19) rfl)
theorem d_law_422 : decode code 422 = .ok (.iload_n 3, 1) := dla_5 (422, .iload_n 3, 1) (List.mem_of_getElem? (i := 20) rfl)
theorem d_law_423 : decode code 423 = .ok (.iconst 1, 1) := dla_5 (423, .iconst 1, 1) (List.mem_of_getElem? (i := 21) rfl)
theorem d_law_424 : decode code 424 = .ok (.iadd, 1) := dla_5 (424, .iadd, 1) (List.mem_of_getElem? (i := 22) rfl)
theorem d_law_425 : decode code 425 = .ok (.iaload, 1) := dla_5 (425, .iaload, 1) (List.mem_of_getElem? (i := 23) rfl)
theorem d_law_426 : decode code 426 = .ok (.aload_n 0, 1) := dla_5 (426, .aload_n 0, 1) (List.mem_of_getElem? (i := 24) rfl)
theorem d_law_427 : decode code 427 = .ok (.iload_n 3, 1) := dla_5 (427, .iload_n 3, 1) (List.mem_of_getElem? (i := 25) rfl)
theorem d_law_428 : decode code 428 = .ok (.iconst 2, 1) := dla_5 (428, .iconst 2, 1) (List.mem_of_getElem? (i := 26) rfl)
theorem d_law_429 : decode code 429 = .ok (.iadd, 1) := dla_5 (429, .iadd, 1) (List.mem_of_getElem? (i := 27) rfl)
theorem d_law_430 : decode code 430 = .ok (.iaload, 1) := dla_5 (430, .iaload, 1) (List.mem_of_getElem? (i := 28) rfl)
theorem d_law_431 : decode code 431 = .ok (.invokevirtual 49, 3) := dla_5 (431, .invokevirtual 49, 3) (List.mem_of_getElem? (i := 29) rfl)
theorem d_law_434 : decode code 434 = .ok (.pop, 1) := dla_5 (434, .pop, 1) (List.mem_of_getElem? (i := 30) rfl)
theorem d_law_435 : decode code 435 = .ok (.aload_n 2, 1) := dla_5 (435, .aload_n 2, 1) (List.mem_of_getElem? (i := 31) rfl)
theorem d_law_436 : decode code 436 = .ok (.aload_n 0, 1) := dla_5 (436, .aload_n 0, 1) (List.mem_of_getElem? (i := 32) rfl)
theorem d_law_437 : decode code 437 = .ok (.iload_n 3, 1) := dla_5 (437, .iload_n 3, 1) (List.mem_of_getElem? (i := 33) rfl)
theorem d_law_438 : decode code 438 = .ok (.iconst 1, 1) := dla_5 (438, .iconst 1, 1) (List.mem_of_getElem? (i := 34) rfl)
theorem d_law_439 : decode code 439 = .ok (.iadd, 1) := dla_5 (439, .iadd, 1) (List.mem_of_getElem? (i := 35) rfl)
theorem d_law_440 : decode code 440 = .ok (.iaload, 1) := dla_5 (440, .iaload, 1) (List.mem_of_getElem? (i := 36) rfl)
theorem d_law_441 : decode code 441 = .ok (.aload_n 0, 1) := dla_5 (441, .aload_n 0, 1) (List.mem_of_getElem? (i := 37) rfl)
theorem d_law_442 : decode code 442 = .ok (.iload_n 3, 1) := dla_5 (442, .iload_n 3, 1) (List.mem_of_getElem? (i := 38) rfl)
theorem d_law_443 : decode code 443 = .ok (.iconst 2, 1) := dla_5 (443, .iconst 2, 1) (List.mem_of_getElem? (i := 39) rfl)
def dli_6 : List (Nat × Instr × Nat) := [(444, .iadd, 1), (445, .iaload, 1), (446, .invokevirtual 52, 3), (449, .pop, 1), (450, .goto 692, 3), (453, .aload_n 1, 1), (454, .aload_n 0, 1), (455, .iload_n 3, 1), (456, .iconst 1, 1), (457, .iadd, 1), (458, .iaload, 1), (459, .invokevirtual 53, 3), (462, .pop, 1), (463, .aload_n 2, 1), (464, .aload_n 0, 1), (465, .iload_n 3, 1), (466, .iconst 1, 1), (467, .iadd, 1), (468, .iaload, 1), (469, .invokevirtual 56, 3), (472, .pop, 1), (473, .goto 669, 3), (476, .aload_n 1, 1), (477, .aload_n 0, 1), (478, .iload_n 3, 1), (479, .iconst 1, 1), (480, .iadd, 1), (481, .iaload, 1), (482, .invokevirtual 57, 3), (485, .pop, 1), (486, .aload_n 2, 1), (487, .aload_n 0, 1), (488, .iload_n 3, 1), (489, .iconst 1, 1), (490, .iadd, 1), (491, .iaload, 1), (492, .invokevirtual 60, 3), (495, .pop, 1), (496, .goto 646, 3), (499, .aload_n 1, 1)]
set_option maxRecDepth 100000 in
theorem dla_6 : ∀ q ∈ dli_6, decode code q.1 = .ok q.2 := by decide +kernel
theorem d_law_444 : decode code 444 = .ok (.iadd, 1) := dla_6 (444, .iadd, 1) (List.mem_of_getElem? (i := 0) rfl)
theorem d_law_445 : decode code 445 = .ok (.iaload, 1) := dla_6 (445, .iaload, 1) (List.mem_of_getElem? (i := 1) rfl)
theorem d_law_446 : decode code 446 = .ok (.invokevirtual 52, 3) := dla_6 (446, .invokevirtual 52, 3) (List.mem_of_getElem? (i := 2) rfl)
theorem d_law_449 : decode code 449 = .ok (.pop, 1) := dla_6 (449, .pop, 1) (List.mem_of_getElem? (i := 3) rfl)
theorem d_law_450 : decode code 450 = .ok (.goto 692, 3) := dla_6 (450, .goto 692, 3) (List.mem_of_getElem? (i := 4) rfl)
theorem d_law_453 : decode code 453 = .ok (.aload_n 1, 1) := dla_6 (453, .aload_n 1, 1) (List.mem_of_getElem? (i := 5) rfl)
theorem d_law_454 : decode code 454 = .ok (.aload_n 0, 1) := dla_6 (454, .aload_n 0, 1) (List.mem_of_getElem? (i := 6) rfl)
theorem d_law_455 : decode code 455 = .ok (.iload_n 3, 1) := dla_6 (455, .iload_n 3, 1) (List.mem_of_getElem? (i := 7) rfl)
theorem d_law_456 : decode code 456 = .ok (.iconst 1, 1) := dla_6 (456, .iconst 1, 1) (List.mem_of_getElem? (i := 8) rfl)
theorem d_law_457 : decode code 457 = .ok (.iadd, 1) := dla_6 (457, .iadd, 1) (List.mem_of_getElem? (i := 9) rfl)
theorem d_law_458 : decode code 458 = .ok (.iaload, 1) := dla_6 (458, .iaload, 1) (List.mem_of_getElem? (i := 10) rfl)
theorem d_law_459 : decode code 459 = .ok (.invokevirtual 53, 3) := dla_6 (459, .invokevirtual 53, 3) (List.mem_of_getElem? (i := 11) rfl)
theorem d_law_462 : decode code 462 = .ok (.pop, 1) := dla_6 (462, .pop, 1) (List.mem_of_getElem? (i := 12) rfl)
theorem d_law_463 : decode code 463 = .ok (.aload_n 2, 1) := dla_6 (463, .aload_n 2, 1) (List.mem_of_getElem? (i := 13) rfl)
theorem d_law_464 : decode code 464 = .ok (.aload_n 0, 1) := dla_6 (464, .aload_n 0, 1) (List.mem_of_getElem? (i := 14) rfl)
theorem d_law_465 : decode code 465 = .ok (.iload_n 3, 1) := dla_6 (465, .iload_n 3, 1) (List.mem_of_getElem? (i := 15) rfl)
theorem d_law_466 : decode code 466 = .ok (.iconst 1, 1) := dla_6 (466, .iconst 1, 1) (List.mem_of_getElem? (i := 16) rfl)
theorem d_law_467 : decode code 467 = .ok (.iadd, 1) := dla_6 (467, .iadd, 1) (List.mem_of_getElem? (i := 17) rfl)
theorem d_law_468 : decode code 468 = .ok (.iaload, 1) := dla_6 (468, .iaload, 1) (List.mem_of_getElem? (i := 18) rfl)
theorem d_law_469 : decode code 469 = .ok (.invokevirtual 56, 3) := dla_6 (469, .invokevirtual 56, 3) (List.mem_of_getElem? (i := 19) rfl)
theorem d_law_472 : decode code 472 = .ok (.pop, 1) := dla_6 (472, .pop, 1) (List.mem_of_getElem? (i := 20) rfl)
theorem d_law_473 : decode code 473 = .ok (.goto 669, 3) := dla_6 (473, .goto 669, 3) (List.mem_of_getElem? (i := 21) rfl)
theorem d_law_476 : decode code 476 = .ok (.aload_n 1, 1) := dla_6 (476, .aload_n 1, 1) (List.mem_of_getElem? (i := 22) rfl)
theorem d_law_477 : decode code 477 = .ok (.aload_n 0, 1) := dla_6 (477, .aload_n 0, 1) (List.mem_of_getElem? (i := 23) rfl)
theorem d_law_478 : decode code 478 = .ok (.iload_n 3, 1) := dla_6 (478, .iload_n 3, 1) (List.mem_of_getElem? (i := 24) rfl)
theorem d_law_479 : decode code 479 = .ok (.iconst 1, 1) := dla_6 (479, .iconst 1, 1) (List.mem_of_getElem? (i := 25) rfl)
theorem d_law_480 : decode code 480 = .ok (.iadd, 1) := dla_6 (480, .iadd, 1) (List.mem_of_getElem? (i := 26) rfl)
theorem d_law_481 : decode code 481 = .ok (.iaload, 1) := dla_6 (481, .iaload, 1) (List.mem_of_getElem? (i := 27) rfl)
theorem d_law_482 : decode code 482 = .ok (.invokevirtual 57, 3) := dla_6 (482, .invokevirtual 57, 3) (List.mem_of_getElem? (i := 28) rfl)
theorem d_law_485 : decode code 485 = .ok (.pop, 1) := dla_6 (485, .pop, 1) (List.mem_of_getElem? (i := 29) rfl)
theorem d_law_486 : decode code 486 = .ok (.aload_n 2, 1) := dla_6 (486, .aload_n 2, 1) (List.mem_of_getElem? (i := 30) rfl)
theorem d_law_487 : decode code 487 = .ok (.aload_n 0, 1) := dla_6 (487, .aload_n 0, 1) (List.mem_of_getElem? (i := 31) rfl)
theorem d_law_488 : decode code 488 = .ok (.iload_n 3, 1) := dla_6 (488, .iload_n 3, 1) (List.mem_of_getElem? (i := 32) rfl)
theorem d_law_489 : decode code 489 = .ok (.iconst 1, 1) := dla_6 (489, .iconst 1, 1) (List.mem_of_getElem? (i := 33) rfl)
theorem d_law_490 : decode code 490 = .ok (.iadd, 1) := dla_6 (490, .iadd, 1) (List.mem_of_getElem? (i := 34) rfl)
theorem d_law_491 : decode code 491 = .ok (.iaload, 1) := dla_6 (491, .iaload, 1) (List.mem_of_getElem? (i := 35) rfl)
theorem d_law_492 : decode code 492 = .ok (.invokevirtual 60, 3) := dla_6 (492, .invokevirtual 60, 3) (List.mem_of_getElem? (i := 36) rfl)
theorem d_law_495 : decode code 495 = .ok (.pop, 1) := dla_6 (495, .pop, 1) (List.mem_of_getElem? (i := 37) rfl)
theorem d_law_496 : decode code 496 = .ok (.goto 646, 3) := dla_6 (496, .goto 646, 3) (List.mem_of_getElem? (i := 38) rfl)
theorem d_law_499 : decode code 499 = .ok (.aload_n 1, 1) := dla_6 (499, .aload_n 1, 1) (List.mem_of_getElem? (i := 39) rfl)
def dli_7 : List (Nat × Instr × Nat) := [(500, .aload_n 0, 1), (501, .iload_n 3, 1), (502, .iconst 1, 1), (503, .iadd, 1), (504, .iaload, 1), (505, .invokevirtual 61, 3), (508, .pop, 1), (509, .aload_n 2, 1), (510, .aload_n 0, 1), (511, .iload_n 3, 1), (512, .iconst 1, 1), (513, .iadd, 1), (514, .iaload, 1), (515, .invokevirtual 64, 3), (518, .pop, 1), (519, .goto 623, 3), (522, .aload_n 1, 1), (523, .invokevirtual 65, 3), (526, .pop, 1), (527, .aload_n 2, 1), (528, .invokevirtual 69, 3), (531, .pop, 1), (532, .goto 610, 3), (535, .aload_n 1, 1), (536, .aload_n 0, 1), (537, .iload_n 3, 1), (538, .iconst 1, 1), (539, .iadd, 1), (540, .iaload, 1), (541, .aload_n 0, 1), (542, .iload_n 3, 1), (543, .iconst 2, 1), (544, .iadd, 1), (545, .iaload, 1), (546, .aload_n 0, 1), (547, .iload_n 3, 1), (548, .iconst 3, 1), (549, .iadd, 1), (550, .iaload, 1), (551, .aload_n 0, 1)]
set_option maxRecDepth 100000 in
theorem dla_7 : ∀ q ∈ dli_7, decode code q.1 = .ok q.2 := by decide +kernel
theorem d_law_500 : decode code 500 = .ok (.aload_n 0, 1) := dla_7 (500, .aload_n 0, 1) (List.mem_of_getElem? (i := 0) rfl)
theorem d_law_501 : decode code 501 = .ok (.iload_n 3, 1) := dla_7 (501, .iload_n 3, 1) (List.mem_of_getElem? (i := 1) rfl)
theorem d_law_502 : decode code 502 = .ok (.iconst 1, 1) := dla_7 (502, .iconst 1, 1) (List.mem_of_getElem? (i := 2) rfl)
theorem d_law_503 : decode code 503 = .ok (.iadd, 1) := dla_7 (503, .iadd, 1) (List.mem_of_getElem? (i := 3) rfl)
theorem d_law_504 : decode code 504 = .ok (.iaload, 1) := dla_7 (504, .iaload, 1) (List.mem_of_getElem? (i := 4) rfl)
theorem d_law_505 : decode code 505 = .ok (.invokevirtual 61, 3) := dla_7 (505, .invokevirtual 61, 3) (List.mem_of_getElem? (i := 5) rfl)
theorem d_law_508 : decode code 508 = .ok (.pop, 1) := dla_7 (508, .pop, 1) (List.mem_of_getElem? (i := 6) rfl)
theorem d_law_509 : decode code 509 = .ok (.aload_n 2, 1) := dla_7 (509, .aload_n 2, 1) (List.mem_of_getElem? (i := 7) rfl)
theorem d_law_510 : decode code 510 = .ok (.aload_n 0, 1) := dla_7 (510, .aload_n 0, 1) (List.mem_of_getElem? (i := 8) rfl)
theorem d_law_511 : decode code 511 = .ok (.iload_n 3, 1) := dla_7 (511, .iload_n 3, 1) (List.mem_of_getElem? (i := 9) rfl)
theorem d_law_512 : decode code 512 = .ok (.iconst 1, 1) := dla_7 (512, .iconst 1, 1) (List.mem_of_getElem? (i := 10) rfl)
theorem d_law_513 : decode code 513 = .ok (.iadd, 1) := dla_7 (513, .iadd, 1) (List.mem_of_getElem? (i := 11) rfl)
theorem d_law_514 : decode code 514 = .ok (.iaload, 1) := dla_7 (514, .iaload, 1) (List.mem_of_getElem? (i := 12) rfl)
theorem d_law_515 : decode code 515 = .ok (.invokevirtual 64, 3) := dla_7 (515, .invokevirtual 64, 3) (List.mem_of_getElem? (i := 13) rfl)
theorem d_law_518 : decode code 518 = .ok (.pop, 1) := dla_7 (518, .pop, 1) (List.mem_of_getElem? (i := 14) rfl)
theorem d_law_519 : decode code 519 = .ok (.goto 623, 3) := dla_7 (519, .goto 623, 3) (List.mem_of_getElem? (i := 15) rfl)
theorem d_law_522 : decode code 522 = .ok (.aload_n 1, 1) := dla_7 (522, .aload_n 1, 1) (List.mem_of_getElem? (i := 16) rfl)
theorem d_law_523 : decode code 523 = .ok (.invokevirtual 65, 3) := dla_7 (523, .invokevirtual 65, 3) (List.mem_of_getElem? (i := 17) rfl)
theorem d_law_526 : decode code 526 = .ok (.pop, 1) := dla_7 (526, .pop, 1) (List.mem_of_getElem? (i := 18) rfl)
theorem d_law_527 : decode code 527 = .ok (.aload_n 2, 1) := dla_7 (527, .aload_n 2, 1) (List.mem_of_getElem? (i := 19) rfl)
theorem d_law_528 : decode code 528 = .ok (.invokevirtual 69, 3) := dla_7 (528, .invokevirtual 69, 3) (List.mem_of_getElem? (i := 20) rfl)
theorem d_law_531 : decode code 531 = .ok (.pop, 1) := dla_7 (531, .pop, 1) (List.mem_of_getElem? (i := 21) rfl)
theorem d_law_532 : decode code 532 = .ok (.goto 610, 3) := dla_7 (532, .goto 610, 3) (List.mem_of_getElem? (i := 22) rfl)
theorem d_law_535 : decode code 535 = .ok (.aload_n 1, 1) := dla_7 (535, .aload_n 1, 1) (List.mem_of_getElem? (i := 23) rfl)
theorem d_law_536 : decode code 536 = .ok (.aload_n 0, 1) := dla_7 (536, .aload_n 0, 1) (List.mem_of_getElem? (i := 24) rfl)
theorem d_law_537 : decode code 537 = .ok (.iload_n 3, 1) := dla_7 (537, .iload_n 3, 1) (List.mem_of_getElem? (i := 25) rfl)
theorem d_law_538 : decode code 538 = .ok (.iconst 1, 1) := dla_7 (538, .iconst 1, 1) (List.mem_of_getElem? (i := 26) rfl)
theorem d_law_539 : decode code 539 = .ok (.iadd, 1) := dla_7 (539, .iadd, 1) (List.mem_of_getElem? (i := 27) rfl)
theorem d_law_540 : decode code 540 = .ok (.iaload, 1) := dla_7 (540, .iaload, 1) (List.mem_of_getElem? (i := 28) rfl)
theorem d_law_541 : decode code 541 = .ok (.aload_n 0, 1) := dla_7 (541, .aload_n 0, 1) (List.mem_of_getElem? (i := 29) rfl)
theorem d_law_542 : decode code 542 = .ok (.iload_n 3, 1) := dla_7 (542, .iload_n 3, 1) (List.mem_of_getElem? (i := 30) rfl)
theorem d_law_543 : decode code 543 = .ok (.iconst 2, 1) := dla_7 (543, .iconst 2, 1) (List.mem_of_getElem? (i := 31) rfl)
theorem d_law_544 : decode code 544 = .ok (.iadd, 1) := dla_7 (544, .iadd, 1) (List.mem_of_getElem? (i := 32) rfl)
theorem d_law_545 : decode code 545 = .ok (.iaload, 1) := dla_7 (545, .iaload, 1) (List.mem_of_getElem? (i := 33) rfl)
theorem d_law_546 : decode code 546 = .ok (.aload_n 0, 1) := dla_7 (546, .aload_n 0, 1) (List.mem_of_getElem? (i := 34) rfl)
theorem d_law_547 : decode code 547 = .ok (.iload_n 3, 1) := dla_7 (547, .iload_n 3, 1) (List.mem_of_getElem? (i := 35) rfl)
theorem d_law_548 : decode code 548 = .ok (.iconst 3, 1) := dla_7 (548, .iconst 3, 1) (List.mem_of_getElem? (i := 36) rfl)
theorem d_law_549 : decode code 549 = .ok (.iadd, 1) := dla_7 (549, .iadd, 1) (List.mem_of_getElem? (i := 37) rfl)
theorem d_law_550 : decode code 550 = .ok (.iaload, 1) := dla_7 (550, .iaload, 1) (List.mem_of_getElem? (i := 38) rfl)
theorem d_law_551 : decode code 551 = .ok (.aload_n 0, 1) := dla_7 (551, .aload_n 0, 1) (List.mem_of_getElem? (i := 39) rfl)
def dli_8 : List (Nat × Instr × Nat) := [(552, .iload_n 3, 1), (553, .iconst 4, 1), (554, .iadd, 1), (555, .iaload, 1), (556, .invokevirtual 70, 3), (559, .pop, 1), (560, .aload_n 2, 1), (561, .aload_n 0, 1), (562, .iload_n 3, 1), (563, .iconst 1, 1), (564, .iadd, 1), (565, .iaload, 1), (566, .aload_n 0, 1), (567, .iload_n 3, 1), (568, .iconst 2, 1), (569, .iadd, 1), (570, .iaload, 1), (571, .aload_n 0, 1), (572, .iload_n 3, 1), (573, .iconst 3, 1), (574, .iadd, 1), (575, .iaload, 1), (576, .aload_n 0, 1), (577, .iload_n 3, 1), (578, .iconst 4, 1), (579, .iadd, 1), (580, .iaload, 1), (581, .invokevirtual 74, 3), (584, .pop, 1), (585, .goto 557, 3), (588, .aload_n 1, 1), (589, .aload_n 0, 1), (590, .iload_n 3, 1), (591, .iconst 1, 1), (592, .iadd, 1), (593, .iaload, 1), (594, .aload_n 0, 1), (595, .iload_n 3, 1), (596, .iconst 2, 1), (597, .iadd, 1)]
set_option maxRecDepth 100000 in
theorem dla_8 : ∀ q ∈ dli_8, decode code q.1 = .ok q.2 := by decide +kernel
theorem d_law_552 : decode code 552 = .ok (.iload_n 3, 1) := dla_8 (552, .iload_n 3, 1) (List.mem_of_getElem? (i := 0) rfl)
theorem d_law_553 : decode code 553 = .ok (.iconst 4, 1) := dla_8 (553, .iconst 4, 1) (List.mem_of_getElem? (i := 1) rfl)
theorem d_law_554 : decode code 554 = .ok (.iadd, 1) := dla_8 (554, .iadd, 1) (List.mem_of_getElem? (i := 2) rfl)
theorem d_law_555 : decode code 555 = .ok (.iaload, 1) := dla_8 (555, .iaload, 1) (List.mem_of_getElem? (i := 3) rfl)
theorem d_law_556 : decode code 556 = .ok (.invokevirtual 70, 3) := dla_8 (556, .invokevirtual 70, 3) (List.mem_of_getElem? (i := 4) rfl)
theorem d_law_559 : decode code 559 = .ok (.pop, 1) := dla_8 (559, .pop, 1) (List.mem_of_getElem? (i := 5) rfl)
theorem d_law_560 : decode code 560 = .ok (.aload_n 2, 1) := dla_8 (560, .aload_n 2, 1) (List.mem_of_getElem? (i := 6) rfl)
theorem d_law_561 : decode code 561 = .ok (.aload_n 0, 1) := dla_8 (561, .aload_n 0, 1) (List.mem_of_getElem? (i := 7) rfl)
theorem d_law_562 : decode code 562 = .ok (.iload_n 3, 1) := dla_8 (562, .iload_n 3, 1) (List.mem_of_getElem? (i := 8) rfl)
theorem d_law_563 : decode code 563 = .ok (.iconst 1, 1) := dla_8 (563, .iconst 1, 1) (List.mem_of_getElem? (i := 9) rfl)
theorem d_law_564 : decode code 564 = .ok (.iadd, 1) := dla_8 (564, .iadd, 1) (List.mem_of_getElem? (i := 10) rfl)
theorem d_law_565 : decode code 565 = .ok (.iaload, 1) := dla_8 (565, .iaload, 1) (List.mem_of_getElem? (i := 11) rfl)
theorem d_law_566 : decode code 566 = .ok (.aload_n 0, 1) := dla_8 (566, .aload_n 0, 1) (List.mem_of_getElem? (i := 12) rfl)
theorem d_law_567 : decode code 567 = .ok (.iload_n 3, 1) := dla_8 (567, .iload_n 3, 1) (List.mem_of_getElem? (i := 13) rfl)
theorem d_law_568 : decode code 568 = .ok (.iconst 2, 1) := dla_8 (568, .iconst 2, 1) (List.mem_of_getElem? (i := 14) rfl)
theorem d_law_569 : decode code 569 = .ok (.iadd, 1) := dla_8 (569, .iadd, 1) (List.mem_of_getElem? (i := 15) rfl)
theorem d_law_570 : decode code 570 = .ok (.iaload, 1) := dla_8 (570, .iaload, 1) (List.mem_of_getElem? (i := 16) rfl)
theorem d_law_571 : decode code 571 = .ok (.aload_n 0, 1) := dla_8 (571, .aload_n 0, 1) (List.mem_of_getElem? (i := 17) rfl)
theorem d_law_572 : decode code 572 = .ok (.iload_n 3, 1) := dla_8 (572, .iload_n 3, 1) (List.mem_of_getElem? (i := 18) rfl)
theorem d_law_573 : decode code 573 = .ok (.iconst 3, 1) := dla_8 (573, .iconst 3, 1) (List.mem_of_getElem? (i := 19) rfl)
theorem d_law_574 : decode code 574 = .ok (.iadd, 1) := dla_8 (574, .iadd, 1) (List.mem_of_getElem? (i := 20) rfl)
theorem d_law_575 : decode code 575 = .ok (.iaload, 1) := dla_8 (575, .iaload, 1) (List.mem_of_getElem? (i := 21) rfl)
theorem d_law_576 : decode code 576 = .ok (.aload_n 0, 1) := dla_8 (576, .aload_n 0, 1) (List.mem_of_getElem? (i := 22) rfl)
theorem d_law_577 : decode code 577 = .ok (.iload_n 3, 1) := dla_8 (577, .iload_n 3, 1) (List.mem_of_getElem? (i := 23) rfl)
theorem d_law_578 : decode code 578 = .ok (.iconst 4, 1) := dla_8 (578, .iconst 4, 1) (List.mem_of_getElem? (i := 24) rfl)
theorem d_law_579 : decode code 579 = .ok (.iadd, 1) := dla_8 (579, .iadd, 1) (List.mem_of_getElem? (i := 25) rfl)
theorem d_law_580 : decode code 580 = .ok (.iaload, 1) := dla_8 (580, .iaload, 1) (List.mem_of_getElem? (i := 26) rfl)
theorem d_law_581 : decode code 581 = .ok (.invokevirtual 74, 3) := dla_8 (581, .invokevirtual 74, 3) (List.mem_of_getElem? (i := 27) rfl)
theorem d_law_584 : decode code 584 = .ok (.pop, 1) := dla_8 (584, .pop, 1) (List.mem_of_getElem? (i := 28) rfl)
theorem d_law_585 : decode code 585 = .ok (.goto 557, 3) := dla_8 (585, .goto 557, 3) (List.mem_of_getElem? (i := 29) rfl)
theorem d_law_588 : decode code 588 = .ok (.aload_n 1, 1) := dla_8 (588, .aload_n 1, 1) (List.mem_of_getElem? (i := 30) rfl)
theorem d_law_589 : decode code 589 = .ok (.aload_n 0, 1) := dla_8 (589, .aload_n 0, 1) (List.mem_of_getElem? (i := 31) rfl)
theorem d_law_590 : decode code 590 = .ok (.iload_n 3, 1) := dla_8 (590, .iload_n 3, 1) (List.mem_of_getElem? (i := 32) rfl)
theorem d_law_591 : decode code 591 = .ok (.iconst 1, 1) := dla_8 (591, .iconst 1, 1) (List.mem_of_getElem? (i := 33) rfl)
theorem d_law_592 : decode code 592 = .ok (.iadd, 1) := dla_8 (592, .iadd, 1) (List.mem_of_getElem? (i := 34) rfl)
theorem d_law_593 : decode code 593 = .ok (.iaload, 1) := dla_8 (593, .iaload, 1) (List.mem_of_getElem? (i := 35) rfl)
theorem d_law_594 : decode code 594 = .ok (.aload_n 0, 1) := dla_8 (594, .aload_n 0, 1) (List.mem_of_getElem? (i := 36) rfl)
theorem d_law_595 : decode code 595 = .ok (.iload_n 3, 1) := dla_8 (595, .iload_n 3, 1) (List.mem_of_getElem? (i := 37) rfl)
theorem d_law_596 : decode code 596 = .ok (.iconst 2, 1) := dla_8 (596, .iconst 2, 1) (List.mem_of_getElem? (i := 38) rfl)
theorem d_law_597 : decode code 597 = .ok (.iadd, 1) := dla_8 (597, .iadd, 1) (List.mem_of_getElem? (i := 39) rfl)
def dli_9 : List (Nat × Instr × Nat) := [(598, .iaload, 1), (599, .invokevirtual 75, 3), (602, .pop, 1), (603, .aload_n 2, 1), (604, .aload_n 0, 1), (605, .iload_n 3, 1), (606, .iconst 1, 1), (607, .iadd, 1), (608, .iaload, 1), (609, .aload_n 0, 1), (610, .iload_n 3, 1), (611, .iconst 2, 1), (612, .iadd, 1), (613, .iaload, 1), (614, .invokevirtual 78, 3), (617, .pop, 1), (618, .goto 524, 3), (621, .aload_n 1, 1), (622, .aload_n 0, 1), (623, .iload_n 3, 1), (624, .iconst 1, 1), (625, .iadd, 1), (626, .iaload, 1), (627, .aload_n 0, 1), (628, .iload_n 3, 1), (629, .iconst 2, 1), (630, .iadd, 1), (631, .iaload, 1), (632, .invokevirtual 79, 3), (635, .pop, 1), (636, .aload_n 2, 1), (637, .aload_n 0, 1), (638, .iload_n 3, 1), (639, .iconst 1, 1), (640, .iadd, 1), (641, .iaload, 1), (642, .aload_n 0, 1), (643, .iload_n 3, 1), (644, .iconst 2, 1), (645, .iadd, 1)]
set_option maxRecDepth 100000 in
theorem dla_9 : ∀ q ∈ dli_9, decode code q.1 = .ok q.2 := by decide +kernel
theorem d_law_598 : decode code 598 = .ok (.iaload, 1) := dla_9 (598, .iaload, 1) (List.mem_of_getElem? (i := 0) rfl)
theorem d_law_599 : decode code 599 = .ok (.invokevirtual 75, 3) := dla_9 (599, .invokevirtual 75, 3) (List.mem_of_getElem? (i := 1) rfl)
theorem d_law_602 : decode code 602 = .ok (.pop, 1) := dla_9 (602, .pop, 1) (List.mem_of_getElem? (i := 2) rfl)
theorem d_law_603 : decode code 603 = .ok (.aload_n 2, 1) := dla_9 (603, .aload_n 2, 1) (List.mem_of_getElem? (i := 3) rfl)
theorem d_law_604 : decode code 604 = .ok (.aload_n 0, 1) := dla_9 (604, .aload_n 0, 1) (List.mem_of_getElem? (i := 4) rfl)
theorem d_law_605 : decode code 605 = .ok (.iload_n 3, 1) := dla_9 (605, .iload_n 3, 1) (List.mem_of_getElem? (i := 5) rfl)
theorem d_law_606 : decode code 606 = .ok (.iconst 1, 1) := dla_9 (606, .iconst 1, 1) (List.mem_of_getElem? (i := 6) rfl)
theorem d_law_607 : decode code 607 = .ok (.iadd, 1) := dla_9 (607, .iadd, 1) (List.mem_of_getElem? (i := 7) rfl)
theorem d_law_608 : decode code 608 = .ok (.iaload, 1) := dla_9 (608, .iaload, 1) (List.mem_of_getElem? (i := 8) rfl)
theorem d_law_609 : decode code 609 = .ok (.aload_n 0, 1) := dla_9 (609, .aload_n 0, 1) (List.mem_of_getElem? (i := 9) rfl)
theorem d_law_610 : decode code 610 = .ok (.iload_n 3, 1) := dla_9 (610, .iload_n 3, 1) (List.mem_of_getElem? (i := 10) rfl)
theorem d_law_611 : decode code 611 = .ok (.iconst 2, 1) := dla_9 (611, .iconst 2, 1) (List.mem_of_getElem? (i := 11) rfl)
theorem d_law_612 : decode code 612 = .ok (.iadd, 1) := dla_9 (612, .iadd, 1) (List.mem_of_getElem? (i := 12) rfl)
theorem d_law_613 : decode code 613 = .ok (.iaload, 1) := dla_9 (613, .iaload, 1) (List.mem_of_getElem? (i := 13) rfl)
theorem d_law_614 : decode code 614 = .ok (.invokevirtual 78, 3) := dla_9 (614, .invokevirtual 78, 3) (List.mem_of_getElem? (i := 14) rfl)
theorem d_law_617 : decode code 617 = .ok (.pop, 1) := dla_9 (617, .pop, 1) (List.mem_of_getElem? (i := 15) rfl)
theorem d_law_618 : decode code 618 = .ok (.goto 524, 3) := dla_9 (618, .goto 524, 3) (List.mem_of_getElem? (i := 16) rfl)
theorem d_law_621 : decode code 621 = .ok (.aload_n 1, 1) := dla_9 (621, .aload_n 1, 1) (List.mem_of_getElem? (i := 17) rfl)
theorem d_law_622 : decode code 622 = .ok (.aload_n 0, 1) := dla_9 (622, .aload_n 0, 1) (List.mem_of_getElem? (i := 18) rfl)
theorem d_law_623 : decode code 623 = .ok (.iload_n 3, 1) := dla_9 (623, .iload_n 3, 1) (List.mem_of_getElem? (i := 19) rfl)
theorem d_law_624 : decode code 624 = .ok (.iconst 1, 1) := dla_9 (624, .iconst 1, 1) (List.mem_of_getElem? (i := 20) rfl)
theorem d_law_625 : decode code 625 = .ok (.iadd, 1) := dla_9 (625, .iadd, 1) (List.mem_of_getElem? (i := 21) rfl)
theorem d_law_626 : decode code 626 = .ok (.iaload, 1) := dla_9 (626, .iaload, 1) (List.mem_of_getElem? (i := 22) rfl)
theorem d_law_627 : decode code 627 = .ok (.aload_n 0, 1) := dla_9 (627, .aload_n 0, 1) (List.mem_of_getElem? (i := 23) rfl)
theorem d_law_628 : decode code 628 = .ok (.iload_n 3, 1) := dla_9 (628, .iload_n 3, 1) (List.mem_of_getElem? (i := 24) rfl)
theorem d_law_629 : decode code 629 = .ok (.iconst 2, 1) := dla_9 (629, .iconst 2, 1) (List.mem_of_getElem? (i := 25) rfl)
theorem d_law_630 : decode code 630 = .ok (.iadd, 1) := dla_9 (630, .iadd, 1) (List.mem_of_getElem? (i := 26) rfl)
theorem d_law_631 : decode code 631 = .ok (.iaload, 1) := dla_9 (631, .iaload, 1) (List.mem_of_getElem? (i := 27) rfl)
theorem d_law_632 : decode code 632 = .ok (.invokevirtual 79, 3) := dla_9 (632, .invokevirtual 79, 3) (List.mem_of_getElem? (i := 28) rfl)
theorem d_law_635 : decode code 635 = .ok (.pop, 1) := dla_9 (635, .pop, 1) (List.mem_of_getElem? (i := 29) rfl)
theorem d_law_636 : decode code 636 = .ok (.aload_n 2, 1) := dla_9 (636, .aload_n 2, 1) (List.mem_of_getElem? (i := 30) rfl)
theorem d_law_637 : decode code 637 = .ok (.aload_n 0, 1) := dla_9 (637, .aload_n 0, 1) (List.mem_of_getElem? (i := 31) rfl)
theorem d_law_638 : decode code 638 = .ok (.iload_n 3, 1) := dla_9 (638, .iload_n 3, 1) (List.mem_of_getElem? (i := 32) rfl)
theorem d_law_639 : decode code 639 = .ok (.iconst 1, 1) := dla_9 (639, .iconst 1, 1) (List.mem_of_getElem? (i := 33) rfl)
theorem d_law_640 : decode code 640 = .ok (.iadd, 1) := dla_9 (640, .iadd, 1) (List.mem_of_getElem? (i := 34) rfl)
theorem d_law_641 : decode code 641 = .ok (.iaload, 1) := dla_9 (641, .iaload, 1) (List.mem_of_getElem? (i := 35) rfl)
theorem d_law_642 : decode code 642 = .ok (.aload_n 0, 1) := dla_9 (642, .aload_n 0, 1) (List.mem_of_getElem? (i := 36) rfl)
theorem d_law_643 : decode code 643 = .ok (.iload_n 3, 1) := dla_9 (643, .iload_n 3, 1) (List.mem_of_getElem? (i := 37) rfl)
theorem d_law_644 : decode code 644 = .ok (.iconst 2, 1) := dla_9 (644, .iconst 2, 1) (List.mem_of_getElem? (i := 38) rfl)
theorem d_law_645 : decode code 645 = .ok (.iadd, 1) := dla_9 (645, .iadd, 1) (List.mem_of_getElem? (i := 39) rfl)
def dli_10 : List (Nat × Instr × Nat) := [(646, .iaload, 1), (647, .invokevirtual 82, 3), (650, .pop, 1), (651, .goto 491, 3), (654, .aload_n 1, 1), (655, .invokevirtual 83, 3), (658, .pop, 1), (659, .aload_n 2, 1), (660, .invokevirtual 86, 3), (663, .pop, 1), (664, .goto 478, 3), (667, .aload_n 1, 1), (668, .aload_n 0, 1), (669, .iload_n 3, 1), (670, .iconst 1, 1), (671, .iadd, 1), (672, .iaload, 1), (673, .aload_n 0, 1), (674, .iload_n 3, 1), (675, .iconst 2, 1), (676, .iadd, 1), (677, .iaload, 1), (678, .aload_n 0, 1), (679, .iload_n 3, 1), (680, .iconst 3, 1), (681, .iadd, 1), (682, .iaload, 1), (683, .invokevirtual 87, 3), (686, .pop, 1), (687, .aload_n 2, 1), (688, .aload_n 0, 1), (689, .iload_n 3, 1), (690, .iconst 1, 1), (691, .iadd, 1), (692, .iaload, 1), (693, .aload_n 0, 1), (694, .iload_n 3, 1), (695, .iconst 2, 1), (696, .iadd, 1), (697, .iaload, 1)]
set_option maxRecDepth 100000 in
theorem dla_10 : ∀ q ∈ dli_10, decode code q.1 = .ok q.2 := by decide +kernel
theorem d_law_646 : decode code 646 = .ok (.iaload, 1) := dla_10 (646, .iaload, 1) (List.mem_of_getElem? (i := 0) rfl)
theorem d_law_647 : decode code 647 = .ok (.invokevirtual 82, 3) := dla_10 (647, .invokevirtual 82, 3) (List.mem_of_getElem? (i := 1) rfl)
theorem d_law_650 : decode code 650 = .ok (.pop, 1) := dla_10 (650, .pop, 1) (List.mem_of_getElem? (i := 2) rfl)
theorem d_law_651 : decode code 651 = .ok (.goto 491, 3) := dla_10 (651, .goto 491, 3) (List.mem_of_getElem? (i := 3) rfl)
theorem d_law_654 : decode code 654 = .ok (.aload_n 1, 1) := dla_10 (654, .aload_n 1, 1) (List.mem_of_getElem? (i := 4) rfl)
theorem d_law_655 : decode code 655 = .ok (.invokevirtual 83, 3) := dla_10 (655, .invokevirtual 83, 3) (List.mem_of_getElem? (i := 5) rfl)
theorem d_law_658 : decode code 658 = .ok (.pop, 1) := dla_10 (658, .pop, 1) (List.mem_of_getElem? (i := 6) rfl)
theorem d_law_659 : decode code 659 = .ok (.aload_n 2, 1) := dla_10 (659, .aload_n 2, 1) (List.mem_of_getElem? (i := 7) rfl)
theorem d_law_660 : decode code 660 = .ok (.invokevirtual 86, 3) := dla_10 (660, .invokevirtual 86, 3) (List.mem_of_getElem? (i := 8) rfl)
theorem d_law_663 : decode code 663 = .ok (.pop, 1) := dla_10 (663, .pop, 1) (List.mem_of_getElem? (i := 9) rfl)
theorem d_law_664 : decode code 664 = .ok (.goto 478, 3) := dla_10 (664, .goto 478, 3) (List.mem_of_getElem? (i := 10) rfl)
theorem d_law_667 : decode code 667 = .ok (.aload_n 1, 1) := dla_10 (667, .aload_n 1, 1) (List.mem_of_getElem? (i := 11) rfl)
theorem d_law_668 : decode code 668 = .ok (.aload_n 0, 1) := dla_10 (668, .aload_n 0, 1) (List.mem_of_getElem? (i := 12) rfl)
theorem d_law_669 : decode code 669 = .ok (.iload_n 3, 1) := dla_10 (669, .iload_n 3, 1) (List.mem_of_getElem? (i := 13) rfl)
theorem d_law_670 : decode code 670 = .ok (.iconst 1, 1) := dla_10 (670, .iconst 1, 1) (List.mem_of_getElem? (i := 14) rfl)
theorem d_law_671 : decode code 671 = .ok (.iadd, 1) := dla_10 (671, .iadd, 1) (List.mem_of_getElem? (i := 15) rfl)
theorem d_law_672 : decode code 672 = .ok (.iaload, 1) := dla_10 (672, .iaload, 1) (List.mem_of_getElem? (i := 16) rfl)
theorem d_law_673 : decode code 673 = .ok (.aload_n 0, 1) := dla_10 (673, .aload_n 0, 1) (List.mem_of_getElem? (i := 17) rfl)
theorem d_law_674 : decode code 674 = .ok (.iload_n 3, 1) := dla_10 (674, .iload_n 3, 1) (List.mem_of_getElem? (i := 18) rfl)
theorem d_law_675 : decode code 675 = .ok (.iconst 2, 1) := dla_10 (675, .iconst 2, 1) (List.mem_of_getElem? (i := 19) rfl)
theorem d_law_676 : decode code 676 = .ok (.iadd, 1) := dla_10 (676, .iadd, 1) (List.mem_of_getElem? (i := 20) rfl)
theorem d_law_677 : decode code 677 = .ok (.iaload, 1) := dla_10 (677, .iaload, 1) (List.mem_of_getElem? (i := 21) rfl)
theorem d_law_678 : decode code 678 = .ok (.aload_n 0, 1) := dla_10 (678, .aload_n 0, 1) (List.mem_of_getElem? (i := 22) rfl)
theorem d_law_679 : decode code 679 = .ok (.iload_n 3, 1) := dla_10 (679, .iload_n 3, 1) (List.mem_of_getElem? (i := 23) rfl)
theorem d_law_680 : decode code 680 = .ok (.iconst 3, 1) := dla_10 (680, .iconst 3, 1) (List.mem_of_getElem? (i := 24) rfl)
theorem d_law_681 : decode code 681 = .ok (.iadd, 1) := dla_10 (681, .iadd, 1) (List.mem_of_getElem? (i := 25) rfl)
theorem d_law_682 : decode code 682 = .ok (.iaload, 1) := dla_10 (682, .iaload, 1) (List.mem_of_getElem? (i := 26) rfl)
theorem d_law_683 : decode code 683 = .ok (.invokevirtual 87, 3) := dla_10 (683, .invokevirtual 87, 3) (List.mem_of_getElem? (i := 27) rfl)
theorem d_law_686 : decode code 686 = .ok (.pop, 1) := dla_10 (686, .pop, 1) (List.mem_of_getElem? (i := 28) rfl)
theorem d_law_687 : decode code 687 = .ok (.aload_n 2, 1) := dla_10 (687, .aload_n 2, 1) (List.mem_of_getElem? (i := 29) rfl)
theorem d_law_688 : decode code 688 = .ok (.aload_n 0, 1) := dla_10 (688, .aload_n 0, 1) (List.mem_of_getElem? (i := 30) rfl)
theorem d_law_689 : decode code 689 = .ok (.iload_n 3, 1) := dla_10 (689, .iload_n 3, 1) (List.mem_of_getElem? (i := 31) rfl)
theorem d_law_690 : decode code 690 = .ok (.iconst 1, 1) := dla_10 (690, .iconst 1, 1) (List.mem_of_getElem? (i := 32) rfl)
theorem d_law_691 : decode code 691 = .ok (.iadd, 1) := dla_10 (691, .iadd, 1) (List.mem_of_getElem? (i := 33) rfl)
theorem d_law_692 : decode code 692 = .ok (.iaload, 1) := dla_10 (692, .iaload, 1) (List.mem_of_getElem? (i := 34) rfl)
theorem d_law_693 : decode code 693 = .ok (.aload_n 0, 1) := dla_10 (693, .aload_n 0, 1) (List.mem_of_getElem? (i := 35) rfl)
theorem d_law_694 : decode code 694 = .ok (.iload_n 3, 1) := dla_10 (694, .iload_n 3, 1) (List.mem_of_getElem? (i := 36) rfl)
theorem d_law_695 : decode code 695 = .ok (.iconst 2, 1) := dla_10 (695, .iconst 2, 1) (List.mem_of_getElem? (i := 37) rfl)
theorem d_law_696 : decode code 696 = .ok (.iadd, 1) := dla_10 (696, .iadd, 1) (List.mem_of_getElem? (i := 38) rfl)
theorem d_law_697 : decode code 697 = .ok (.iaload, 1) := dla_10 (697, .iaload, 1) (List.mem_of_getElem? (i := 39) rfl)
def dli_11 : List (Nat × Instr × Nat) := [(698, .aload_n 0, 1), (699, .iload_n 3, 1), (700, .iconst 3, 1), (701, .iadd, 1), (702, .iaload, 1), (703, .invokevirtual 91, 3), (706, .pop, 1), (707, .goto 435, 3), (710, .aload_n 1, 1), (711, .aload_n 0, 1), (712, .iload_n 3, 1), (713, .iconst 1, 1), (714, .iadd, 1), (715, .iaload, 1), (716, .aload_n 0, 1), (717, .iload_n 3, 1), (718, .iconst 2, 1), (719, .iadd, 1), (720, .iaload, 1), (721, .aload_n 0, 1), (722, .iload_n 3, 1), (723, .iconst 3, 1), (724, .iadd, 1), (725, .iaload, 1), (726, .aload_n 0, 1), (727, .iload_n 3, 1), (728, .iconst 4, 1), (729, .iadd, 1), (730, .iaload, 1), (731, .invokevirtual 92, 3), (734, .pop, 1), (735, .aload_n 2, 1), (736, .aload_n 0, 1), (737, .iload_n 3, 1), (738, .iconst 1, 1), (739, .iadd, 1), (740, .iaload, 1), (741, .aload_n 0, 1), (742, .iload_n 3, 1), (743, .iconst 2, 1)]
set_option maxRecDepth 100000 in
theorem dla_11 : ∀ q ∈ dli_11, decode code q.1 = .ok q.2 := by decide +kernel
theorem d_law_698 : decode code 698 = .ok (.aload_n 0, 1) := dla_11 (698, .aload_n 0, 1) (List.mem_of_getElem? (i := 0) rfl)
theorem d_law_699 : decode code 699 = .ok (.iload_n 3, 1) := dla_11 (699, .iload_n 3, 1) (List.mem_of_getElem? (i := 1) rfl)
theorem d_law_700 : decode code 700 = .ok (.iconst 3, 1) := dla_11 (700, .iconst 3, 1) (List.mem_of_getElem? (i := 2) rfl)
theorem d_law_701 : decode code 701 = .ok (.iadd, 1) := dla_11 (701, .iadd, 1) (List.mem_of_getElem? (i := 3) rfl)
theorem d_law_702 : decode code 702 = .ok (.iaload, 1) := dla_11 (702, .iaload, 1) (List.mem_of_getElem? (i := 4) rfl)
theorem d_law_703 : decode code 703 = .ok (.invokevirtual 91, 3) := dla_11 (703, .invokevirtual 91, 3) (List.mem_of_getElem? (i := 5) rfl)
theorem d_law_706 : decode code 706 = .ok (.pop, 1) := dla_11 (706, .pop, 1) (List.mem_of_getElem? (i := 6) rfl)
theorem d_law_707 : decode code 707 = .ok (.goto 435, 3) := dla_11 (707, .goto 435, 3) (List.mem_of_getElem? (i := 7) rfl)
theorem d_law_710 : decode code 710 = .ok (.aload_n 1, 1) := dla_11 (710, .aload_n 1, 1) (List.mem_of_getElem? (i := 8) rfl)
theorem d_law_711 : decode code 711 = .ok (.aload_n 0, 1) := dla_11 (711, .aload_n 0, 1) (List.mem_of_getElem? (i := 9) rfl)
theorem d_law_712 : decode code 712 = .ok (.iload_n 3, 1) := dla_11 (712, .iload_n 3, 1) (List.mem_of_getElem? (i := 10) rfl)
theorem d_law_713 : decode code 713 = .ok (.iconst 1, 1) := dla_11 (713, .iconst 1, 1) (List.mem_of_getElem? (i := 11) rfl)
theorem d_law_714 : decode code 714 = .ok (.iadd, 1) := dla_11 (714, .iadd, 1) (List.mem_of_getElem? (i := 12) rfl)
theorem d_law_715 : decode code 715 = .ok (.iaload, 1) := dla_11 (715, .iaload, 1) (List.mem_of_getElem? (i := 13) rfl)
theorem d_law_716 : decode code 716 = .ok (.aload_n 0, 1) := dla_11 (716, .aload_n 0, 1) (List.mem_of_getElem? (i := 14) rfl)
theorem d_law_717 : decode code 717 = .ok (.iload_n 3, 1) := dla_11 (717, .iload_n 3, 1) (List.mem_of_getElem? (i := 15) rfl)
theorem d_law_718 : decode code 718 = .ok (.iconst 2, 1) := dla_11 (718, .iconst 2, 1) (List.mem_of_getElem? (i := 16) rfl)
theorem d_law_719 : decode code 719 = .ok (.iadd, 1) := dla_11 (719, .iadd, 1) (List.mem_of_getElem? (i := 17) rfl)
theorem d_law_720 : decode code 720 = .ok (.iaload, 1) := dla_11 (720, .iaload, 1) (List.mem_of_getElem? (i := 18) rfl)
theorem d_law_721 : decode code 721 = .ok (.aload_n 0, 1) := dla_11 (721, .aload_n 0, 1) (List.mem_of_getElem? (i := 19) rfl)
theorem d_law_722 : decode code 722 = .ok (.iload_n 3, 1) := dla_11 (722, .iload_n 3, 1) (List.mem_of_getElem? (i := 20) rfl)
theorem d_law_723 : decode code 723 = .ok (.iconst 3, 1) := dla_11 (723, .iconst 3, 1) (List.mem_of_getElem? (i := 21) rfl)
theorem d_law_724 : decode code 724 = .ok (.iadd, 1) := dla_11 (724, .iadd, 1) (List.mem_of_getElem? (i := 22) rfl)
theorem d_law_725 : decode code 725 = .ok (.iaload, 1) := dla_11 (725, .iaload, 1) (List.mem_of_getElem? (i := 23) rfl)
theorem d_law_726 : decode code 726 = .ok (.aload_n 0, 1) := dla_11 (726, .aload_n 0, 1) (List.mem_of_getElem? (i := 24) rfl)
theorem d_law_727 : decode code 727 = .ok (.iload_n 3, 1) := dla_11 (727, .iload_n 3, 1) (List.mem_of_getElem? (i := 25) rfl)
theorem d_law_728 : decode code 728 = .ok (.iconst 4, 1) := dla_11 (728, .iconst 4, 1) (List.mem_of_getElem? (i := 26) rfl)
theorem d_law_729 : decode code 729 = .ok (.iadd, 1) := dla_11 (729, .iadd, 1) (List.mem_of_getElem? (i := 27) rfl)
theorem d_law_730 : decode code 730 = .ok (.iaload, 1) := dla_11 (730, .iaload, 1) (List.mem_of_getElem? (i := 28) rfl)
theorem d_law_731 : decode code 731 = .ok (.invokevirtual 92, 3) := dla_11 (731, .invokevirtual 92, 3) (List.mem_of_getElem? (i := 29) rfl)
theorem d_law_734 : decode code 734 = .ok (.pop, 1) := dla_11 (734, .pop, 1) (List.mem_of_getElem? (i := 30) rfl)
theorem d_law_735 : decode code 735 = .ok (.aload_n 2, 1) := dla_11 (735, .aload_n 2, 1) (List.mem_of_getElem? (i := 31) rfl)
theorem d_law_736 : decode code 736 = .ok (.aload_n 0, 1) := dla_11 (736, .aload_n 0, 1) (List.mem_of_getElem? (i := 32) rfl)
theorem d_law_737 : decode code 737 = .ok (.iload_n 3, 1) := dla_11 (737, .iload_n 3, 1) (List.mem_of_getElem? (i := 33) rfl)
theorem d_law_738 : decode code 738 = .ok (.iconst 1, 1) := dla_11 (738, .iconst 1, 1) (List.mem_of_getElem? (i := 34) rfl)
theorem d_law_739 : decode code 739 = .ok (.iadd, 1) := dla_11 (739, .iadd, 1) (List.mem_of_getElem? (i := 35) rfl)
theorem d_law_740 : decode code 740 = .ok (.iaload, 1) := dla_11 (740, .iaload, 1) (List.mem_of_getElem? (i := 36) rfl)
theorem d_law_741 : decode code 741 = .ok (.aload_n 0, 1) := dla_11 (741, .aload_n 0, 1) (List.mem_of_getElem? (i := 37) rfl)
theorem d_law_742 : decode code 742 = .ok (.iload_n 3, 1) := dla_11 (742, .iload_n 3, 1) (List.mem_of_getElem? (i := 38) rfl)
theorem d_law_743 : decode code 743 = .ok (.iconst 2, 1) := dla_11 (743, .iconst 2, 1) (List.mem_of_getElem? (i := 39) rfl)
def dli_12 : List (Nat × Instr × Nat) := [(744, .iadd, 1), (745, .iaload, 1), (746, .aload_n 0, 1), (747, .iload_n 3, 1), (748, .iconst 3, 1), (749, .iadd, 1), (750, .iaload, 1), (751, .aload_n 0, 1), (752, .iload_n 3, 1), (753, .iconst 4, 1), (754, .iadd, 1), (755, .iaload, 1), (756, .invokevirtual 95, 3), (759, .pop, 1), (760, .goto 382, 3), (763, .aload_n 1, 1), (764, .aload_n 0, 1), (765, .iload_n 3, 1), (766, .iconst 1, 1), (767, .iadd, 1), (768, .iaload, 1), (769, .invokevirtual 96, 3), (772, .pop, 1), (773, .aload_n 2, 1), (774, .aload_n 0, 1), (775, .iload_n 3, 1), (776, .iconst 1, 1), (777, .iadd, 1), (778, .iaload, 1), (779, .invokevirtual 99, 3), (782, .pop, 1), (783, .goto 359, 3), (786, .aload_n 1, 1), (787, .aload_n 0, 1), (788, .iload_n 3, 1), (789, .iconst 1, 1), (790, .iadd, 1), (791, .iaload, 1), (792, .aload_n 0, 1), (793, .iload_n 3, 1)]
set_option maxRecDepth 100000 in
theorem dla_12 : ∀ q ∈ dli_12, decode code q.1 = .ok q.2 := by decide +kernel
theorem d_law_744 : decode code 744 = .ok (.iadd, 1) := dla_12 (744, .iadd, 1) (List.mem_of_getElem? (i := 0) rfl)
theorem d_law_745 : decode code 745 = .ok (.iaload, 1) := dla_12 (745, .iaload, 1) (List.mem_of_getElem? (i := 1) rfl)
theorem d_law_746 : decode code 746 = .ok (.aload_n 0, 1) := dla_12 (746, .aload_n 0, 1) (List.mem_of_getElem? (i := 2) rfl)
theorem d_law_747 : decode code 747 = .ok (.iload_n 3, 1) := dla_12 (747, .iload_n 3, 1) (List.mem_of_getElem? (i := 3) rfl)
theorem d_law_748 : decode code 748 = .ok (.iconst 3, 1) := dla_12 (748, .iconst 3, 1) (List.mem_of_getElem? (i := 4) rfl)
theorem d_law_749 : decode code 749 = .ok (.iadd, 1) := dla_12 (749, .iadd, 1) (List.mem_of_getElem? (i := 5) rfl)
theorem d_law_750 : decode code 750 = .ok (.iaload, 1) := dla_12 (750, .iaload, 1) (List.mem_of_getElem? (i := 6) rfl)
theorem d_law_751 : decode code 751 = .ok (.aload_n 0, 1) := dla_12 (751, .aload_n 0, 1) (List.mem_of_getElem? (i := 7) rfl)
theorem d_law_752 : decode code 752 = .ok (.iload_n 3, 1) := dla_12 (752, .iload_n 3, 1) (List.mem_of_getElem? (i := 8) rfl)
theorem d_law_753 : decode code 753 = .ok (.iconst 4, 1) := dla_12 (753, .iconst 4, 1) (List.mem_of_getElem? (i := 9) rfl)
theorem d_law_754 : decode code 754 = .ok (.iadd, 1) := dla_12 (754, .iadd, 1) (List.mem_of_getElem? (i := 10) rfl)
theorem d_law_755 : decode code 755 = .ok (.iaload, 1) := dla_12 (755, .iaload, 1) (List.mem_of_getElem? (i := 11) rfl)
theorem d_law_756 : decode code 756 = .ok (.invokevirtual 95, 3) := dla_12 (756, .invokevirtual 95, 3) (List.mem_of_getElem? (i := 12) rfl)
theorem d_law_759 : decode code 759 = .ok (.pop, 1) := dla_12 (759, .pop, 1) (List.mem_of_getElem? (i := 13) rfl)
theorem d_law_760 : decode code 760 = .ok (.goto 382, 3) := dla_12 (760, .goto 382, 3) (List.mem_of_getElem? (i := 14) rfl)
theorem d_law_763 : decode code 763 = .ok (.aload_n 1, 1) := dla_12 (763, .aload_n 1, 1) (List.mem_of_getElem? (i := 15) rfl)
theorem d_law_764 : decode code 764 = .ok (.aload_n 0, 1) := dla_12 (764, .aload_n 0, 1) (List.mem_of_getElem? (i := 16) rfl)
theorem d_law_765 : decode code 765 = .ok (.iload_n 3, 1) := dla_12 (765, .iload_n 3, 1) (List.mem_of_getElem? (i := 17) rfl)
theorem d_law_766 : decode code 766 = .ok (.iconst 1, 1) := dla_12 (766, .iconst 1, 1) (List.mem_of_getElem? (i := 18) rfl)
theorem d_law_767 : decode code 767 = .ok (.iadd, 1) := dla_12 (767, .iadd, 1) (List.mem_of_getElem? (i := 19) rfl)
theorem d_law_768 : decode code 768 = .ok (.iaload, 1) := dla_12 (768, .iaload, 1) (List.mem_of_getElem? (i := 20) rfl)
theorem d_law_769 : decode code 769 = .ok (.invokevirtual 96, 3) := dla_12 (769, .invokevirtual 96, 3) (List.mem_of_getElem? (i := 21) rfl)
theorem d_law_772 : decode code 772 = .ok (.pop, 1) := dla_12 (772, .pop, 1) (List.mem_of_getElem? (i := 22) rfl)
theorem d_law_773 : decode code 773 = .ok (.aload_n 2, 1) := dla_12 (773, .aload_n 2, 1) (List.mem_of_getElem? (i := 23) rfl)
theorem d_law_774 : decode code 774 = .ok (.aload_n 0, 1) := dla_12 (774, .aload_n 0, 1) (List.mem_of_getElem? (i := 24) rfl)
theorem d_law_775 : decode code 775 = .ok (.iload_n 3, 1) := dla_12 (775, .iload_n 3, 1) (List.mem_of_getElem? (i := 25) rfl)
theorem d_law_776 : decode code 776 = .ok (.iconst 1, 1) := dla_12 (776, .iconst 1, 1) (List.mem_of_getElem? (i := 26) rfl)
theorem d_law_777 : decode code 777 = .ok (.iadd, 1) := dla_12 (777, .iadd, 1) (List.mem_of_getElem? (i := 27) rfl)
theorem d_law_778 : decode code 778 = .ok (.iaload, 1) := dla_12 (778, .iaload, 1) (List.mem_of_getElem? (i := 28) rfl)
theorem d_law_779 : decode code 779 = .ok (.invokevirtual 99, 3) := dla_12 (779, .invokevirtual 99, 3) (List.mem_of_getElem? (i := 29) rfl)
theorem d_law_782 : decode code 782 = .ok (.pop, 1) := dla_12 (782, .pop, 1) (List.mem_of_getElem? (i := 30) rfl)
theorem d_law_783 : decode code 783 = .ok (.goto 359, 3) := dla_12 (783, .goto 359, 3) (List.mem_of_getElem? (i := 31) rfl)
theorem d_law_786 : decode code 786 = .ok (.aload_n 1, 1) := dla_12 (786, .aload_n 1, 1) (List.mem_of_getElem? (i := 32) rfl)
theorem d_law_787 : decode code 787 = .ok (.aload_n 0, 1) := dla_12 (787, .aload_n 0, 1) (List.mem_of_getElem? (i := 33) rfl)
theorem d_law_788 : decode code 788 = .ok (.iload_n 3, 1) := dla_12 (788, .iload_n 3, 1) (List.mem_of_getElem? (i := 34) rfl)
theorem d_law_789 : decode code 789 = .ok (.iconst 1, 1) := dla_12 (789, .iconst 1, 1) (List.mem_of_getElem? (i := 35) rfl)
theorem d_law_790 : decode code 790 = .ok (.iadd, 1) := dla_12 (790, .iadd, 1) (List.mem_of_getElem? (i := 36) rfl)
theorem d_law_791 : decode code 791 = .ok (.iaload, 1) := dla_12 (791, .iaload, 1) (List.mem_of_getElem? (i := 37) rfl)
theorem d_law_792 : decode code 792 = .ok (.aload_n 0, 1) := dla_12 (792, .aload_n 0, 1) (List.mem_of_getElem? (i := 38) rfl)
theorem d_law_793 : decode code 793 = .ok (.iload_n 3, 1) := dla_12 (793, .iload_n 3, 1) (List.mem_of_getElem? (i := 39) rfl)
def dli_13 : List (Nat × Instr × Nat) := [(794, .iconst 2, 1), (795, .iadd, 1), (796, .iaload, 1), (797, .invokevirtual 100, 3), (800, .pop, 1), (801, .aload_n 2, 1), (802, .aload_n 0, 1), (803, .iload_n 3, 1), (804, .iconst 1, 1), (805, .iadd, 1), (806, .iaload, 1), (807, .aload_n 0, 1), (808, .iload_n 3, 1), (809, .iconst 2, 1), (810, .iadd, 1), (811, .iaload, 1), (812, .invokevirtual 103, 3), (815, .pop, 1), (816, .goto 326, 3), (819, .aload_n 1, 1), (820, .aload_n 0, 1), (821, .iload_n 3, 1), (822, .iconst 1, 1), (823, .iadd, 1), (824, .iaload, 1), (825, .aload_n 0, 1), (826, .iload_n 3, 1), (827, .iconst 2, 1), (828, .iadd, 1), (829, .iaload, 1), (830, .invokevirtual 104, 3), (833, .pop, 1), (834, .aload_n 2, 1), (835, .aload_n 0, 1), (836, .iload_n 3, 1), (837, .iconst 1, 1), (838, .iadd, 1), (839, .iaload, 1), (840, .aload_n 0, 1), (841, .iload_n 3, 1)]
set_option maxRecDepth 100000 in
theorem dla_13 : ∀ q ∈ dli_13, decode code q.1 = .ok q.2 := by decide +kernel
theorem d_law_794 : decode code 794 = .ok (.iconst 2, 1) := dla_13 (794, .iconst 2, 1) (List.mem_of_getElem? (i := 0) rfl)
theorem d_law_795 : decode code 795 = .ok (.iadd, 1) := dla_13 (795, .iadd, 1) (List.mem_of_getElem? (i := 1) rfl)
theorem d_law_796 : decode code 796 = .ok (.iaload, 1) := dla_13 (796, .iaload, 1) (List.mem_of_getElem? (i := 2) rfl)
theorem d_law_797 : decode code 797 = .ok (.invokevirtual 100, 3) := dla_13 (797, .invokevirtual 100, 3) (List.mem_of_getElem? (i := 3) rfl)
theorem d_law_800 : decode code 800 = .ok (.pop, 1) := dla_13 (800, .pop, 1) (List.mem_of_getElem? (i := 4) rfl)
theorem d_law_801 : decode code 801 = .ok (.aload_n 2, 1) := dla_13 (801, .aload_n 2, 1) (List.mem_of_getElem? (i := 5) rfl)
theorem d_law_802 : decode code 802 = .ok (.aload_n 0, 1) := dla_13 (802, .aload_n 0, 1) (List.mem_of_getElem? (i := 6) rfl)
theorem d_law_803 : decode code 803 = .ok (.iload_n 3, 1) := dla_13 (803, .iload_n 3, 1) (List.mem_of_getElem? (i := 7) rfl)
theorem d_law_804 : decode code 804 = .ok (.iconst 1, 1) := dla_13 (804, .iconst 1, 1) (List.mem_of_getElem? (i := 8) rfl)
theorem d_law_805 : decode code 805 = .ok (.iadd, 1) := dla_13 (805, .iadd, 1) (List.mem_of_getElem? (i := 9) rfl)
theorem d_law_806 : decode code 806 = .ok (.iaload, 1) := dla_13 (806, .iaload, 1) (List.mem_of_getElem? (i := 10) rfl)
theorem d_law_807 : decode code 807 = .ok (.aload_n 0, 1) := dla_13 (807, .aload_n 0, 1) (List.mem_of_getElem? (i := 11) rfl)
theorem d_law_808 : decode code 808 = .ok (.iload_n 3, 1) := dla_13 (808, .iload_n 3, 1) (List.mem_of_getElem? (i := 12) rfl)
theorem d_law_809 : decode code 809 = .ok (.iconst 2, 1) := dla_13 (809, .iconst 2, 1) (List.mem_of_getElem? (i := 13) rfl)
theorem d_law_810 : decode code 810 = .ok (.iadd, 1) := dla_13 (810, .iadd, 1) (List.mem_of_getElem? (i := 14) rfl)
theorem d_law_811 : decode code 811 = .ok (.iaload, 1) := dla_13 (811, .iaload, 1) (List.mem_of_getElem? (i := 15) rfl)
theorem d_law_812 : decode code 812 = .ok (.invokevirtual 103, 3) := dla_13 (812, .invokevirtual 103, 3) (List.mem_of_getElem? (i := 16) rfl)
theorem d_law_815 : decode code 815 = .ok (.pop, 1) := dla_13 (815, .pop, 1) (List.mem_of_getElem? (i := 17) rfl)
theorem d_law_816 : decode code 816 = .ok (.goto 326, 3) := dla_13 (816, .goto 326, 3) (List.mem_of_getElem? (i := 18) rfl)
theorem d_law_819 : decode code 819 = .ok (.aload_n 1, 1) := dla_13 (819, .aload_n 1, 1) (List.mem_of_getElem? (i := 19) rfl)
theorem d_law_820 : decode code 820 = .ok (.aload_n 0, 1) := dla_13 (820, .aload_n 0, 1) (List.mem_of_getElem? (i := 20) rfl)
theorem d_law_821 : decode code 821 = .ok (.iload_n 3, 1) := dla_13 (821, .iload_n 3, 1) (List.mem_of_getElem? (i := 21) rfl)
theorem d_law_822 : decode code 822 = .ok (.iconst 1, 1) := dla_13 (822, .iconst 1, 1) (List.mem_of_getElem? (i := 22) rfl)
theorem d_law_823 : decode code 823 = .ok (.iadd, 1) := dla_13 (823, .iadd, 1) (List.mem_of_getElem? (i := 23) rfl)
theorem d_law_824 : decode code 824 = .ok (.iaload, 1) := dla_13 (824, .iaload, 1) (List.mem_of_getElem? (i := 24) rfl)
theorem d_law_825 : decode code 825 = .ok (.aload_n 0, 1) := dla_13 (825, .aload_n 0, 1) (List.mem_of_getElem? (i := 25) rfl)
theorem d_law_826 : decode code 826 = .ok (.iload_n 3, 1) := dla_13 (826, .iload_n 3, 1) (List.mem_of_getElem? (i := 26) rfl)
theorem d_law_827 : decode code 827 = .ok (.iconst 2, 1) := dla_13 (827, .iconst 2, 1) (List.mem_of_getElem? (i := 27) rfl)
theorem d_law_828 : decode code 828 = .ok (.iadd, 1) := dla_13 (828, .iadd, 1) (List.mem_of_getElem? (i := 28) rfl)
theorem d_law_829 : decode code 829 = .ok (.iaload, 1) := dla_13 (829, .iaload, 1) (List.mem_of_getElem? (i := 29) rfl)
theorem d_law_830 : decode code 830 = .ok (.invokevirtual 104, 3) := dla_13 (830, .invokevirtual 104, 3) (List.mem_of_getElem? (i := 30) rfl)
theorem d_law_833 : decode code 833 = .ok (.pop, 1) := dla_13 (833, .pop, 1) (List.mem_of_getElem? (i := 31) rfl)
theorem d_law_834 : decode code 834 = .ok (.aload_n 2, 1) := dla_13 (834, .aload_n 2, 1) (List.mem_of_getElem? (i := 32) rfl)
theorem d_law_835 : decode code 835 = .ok (.aload_n 0, 1) := dla_13 (835, .aload_n 0, 1) (List.mem_of_getElem? (i := 33) rfl)
theorem d_law_836 : decode code 836 = .ok (.iload_n 3, 1) := dla_13 (836, .iload_n 3, 1) (List.mem_of_getElem? (i := 34) rfl)
theorem d_law_837 : decode code 837 = .ok (.iconst 1, 1) := dla_13 (837, .iconst 1, 1) (List.mem_of_getElem? (i := 35) rfl)
theorem d_law_838 : decode code 838 = .ok (.iadd, 1) := dla_13 (838, .iadd, 1) (List.mem_of_getElem? (i := 36) rfl)
theorem d_law_839 : decode code 839 = .ok (.iaload, 1) := dla_13 (839, .iaload, 1) (List.mem_of_getElem? (i := 37) rfl)
theorem d_law_840 : decode code 840 = .ok (.aload_n 0, 1) := dla_13 (840, .aload_n 0, 1) (List.mem_of_getElem? (i := 38) rfl)
theorem d_law_841 : decode code 841 = .ok (.iload_n 3, 1) := dla_13 (841, .iload_n 3, 1) (List.mem_of_getElem? (i := 39) rfl)
def dli_14 : List (Nat × Instr × Nat) := [(842, .iconst 2, 1), (843, .iadd, 1), (844, .iaload, 1), (845, .invokevirtual 107, 3), (848, .pop, 1), (849, .goto 293, 3), (852, .aload_n 1, 1), (853, .aload_n 0, 1), (854, .iload_n 3, 1), (855, .iconst 1, 1), (856, .iadd, 1), (857, .iaload, 1), (858, .aload_n 0, 1), (859, .iload_n 3, 1), (860, .iconst 2, 1), (861, .iadd, 1), (862, .iaload, 1), (863, .aload_n 0, 1), (864, .iload_n 3, 1), (865, .iconst 3, 1), (866, .iadd, 1), (867, .iaload, 1), (868, .invokevirtual 108, 3), (871, .pop, 1), (872, .aload_n 2, 1), (873, .aload_n 0, 1), (874, .iload_n 3, 1), (875, .iconst 1, 1), (876, .iadd, 1), (877, .iaload, 1), (878, .aload_n 0, 1), (879, .iload_n 3, 1), (880, .iconst 2, 1), (881, .iadd, 1), (882, .iaload, 1), (883, .aload_n 0, 1), (884, .iload_n 3, 1), (885, .iconst 3, 1), (886, .iadd, 1), (887, .iaload, 1)]
set_option maxRecDepth 100000 in
theorem dla_14 : ∀ q ∈ dli_14, decode code q.1 = .ok q.2 := by decide +kernel
theorem d_law_842 : decode code 842 = .ok (.iconst 2, 1) := dla_14 (842, .iconst 2, 1) (List.mem_of_getElem? (i := 0) rfl)
theorem d_law_843 : decode code 843 = .ok (.iadd, 1) := dla_14 (843, .iadd, 1) (List.mem_of_getElem? (i := 1) rfl)
theorem d_law_844 : decode code 844 = .ok (.iaload, 1) := dla_14 (844, .iaload, 1) (List.mem_of_getElem? (i := 2) rfl)
theorem d_law_845 : decode code 845 = .ok (.invokevirtual 107, 3) := dla_14 (845, .invokevirtual 107, 3) (List.mem_of_getElem? (i := 3) rfl)
theorem d_law_848 : decode code 848 = .ok (.pop, 1) := dla_14 (848, .pop, 1) (List.mem_of_getElem? (i := 4) rfl)
theorem d_law_849 : decode code 849 = .ok (.goto 293, 3) := dla_14 (849, .goto 293, 3) (List.mem_of_getElem? (i := 5) rfl)
theorem d_law_852 : decode code 852 = .ok (.aload_n 1, 1) := dla_14 (852, .aload_n 1, 1) (List.mem_of_getElem? (i := 6) rfl)
theorem d_law_853 : decode code 853 = .ok (.aload_n 0, 1) := dla_14 (853, .aload_n 0, 1) (List.mem_of_getElem? (i := 7) rfl)
theorem d_law_854 : decode code 854 = .ok (.iload_n 3, 1) := dla_14 (854, .iload_n 3, 1) (List.mem_of_getElem? (i := 8) rfl)
theorem d_law_855 : decode code 855 = .ok (.iconst 1, 1) := dla_14 (855, .iconst 1, 1) (List.mem_of_getElem? (i := 9) rfl)
theorem d_law_856 : decode code 856 = .ok (.iadd, 1) := dla_14 (856, .iadd, 1) (List.mem_of_getElem? (i := 10) rfl)
theorem d_law_857 : decode code 857 = .ok (.iaload, 1) := dla_14 (857, .iaload, 1) (List.mem_of_getElem? (i := 11) rfl)
theorem d_law_858 : decode code 858 = .ok (.aload_n 0, 1) := dla_14 (858, .aload_n 0, 1) (List.mem_of_getElem? (i := 12) rfl)
theorem d_law_859 : decode code 859 = .ok (.iload_n 3, 1) := dla_14 (859, .iload_n 3, 1) (List.mem_of_getElem? (i := 13) rfl)
theorem d_law_860 : decode code 860 = .ok (.iconst 2, 1) := dla_14 (860, .iconst 2, 1) (List.mem_of_getElem? (i := 14) rfl)
theorem d_law_861 : decode code 861 = .ok (.iadd, 1) := dla_14 (861, .iadd, 1) (List.mem_of_getElem? (i := 15) rfl)
theorem d_law_862 : decode code 862 = .ok (.iaload, 1) := dla_14 (862, .iaload, 1) (List.mem_of_getElem? (i := 16) rfl)
theorem d_law_863 : decode code 863 = .ok (.aload_n 0, 1) := dla_14 (863, .aload_n 0, 1) (List.mem_of_getElem? (i := 17) rfl)
theorem d_law_864 : decode code 864 = .ok (.iload_n 3, 1) := dla_14 (864, .iload_n 3, 1) (List.mem_of_getElem? (i := 18) rfl)
theorem d_law_865 : decode code 865 = .ok (.iconst 3, 1) := dla_14 (865, .iconst 3, 1) (List.mem_of_getElem? (i := 19) rfl)
theorem d_law_866 : decode code 866 = .ok (.iadd, 1) := dla_14 (866, .iadd, 1) (List.mem_of_getElem? (i := 20) rfl)
theorem d_law_867 : decode code 867 = .ok (.iaload, 1) := dla_14 (867, .iaload, 1) (List.mem_of_getElem? (i := 21) rfl)
theorem d_law_868 : decode code 868 = .ok (.invokevirtual 108, 3) := dla_14 (868, .invokevirtual 108, 3) (List.mem_of_getElem? (i := 22) rfl)
theorem d_law_871 : decode code 871 = .ok (.pop, 1) := dla_14 (871, .pop, 1) (List.mem_of_getElem? (i := 23) rfl)
theorem d_law_872 : decode code 872 = .ok (.aload_n 2, 1) := dla_14 (872, .aload_n 2, 1) (List.mem_of_getElem? (i := 24) rfl)
theorem d_law_873 : decode code 873 = .ok (.aload_n 0, 1) := dla_14 (873, .aload_n 0, 1) (List.mem_of_getElem? (i := 25) rfl)
theorem d_law_874 : decode code 874 = .ok (.iload_n 3, 1) := dla_14 (874, .iload_n 3, 1) (List.mem_of_getElem? (i := 26) rfl)
theorem d_law_875 : decode code 875 = .ok (.iconst 1, 1) := dla_14 (875, .iconst 1, 1) (List.mem_of_getElem? (i := 27) rfl)
theorem d_law_876 : decode code 876 = .ok (.iadd, 1) := dla_14 (876, .iadd, 1) (List.mem_of_getElem? (i := 28) rfl)
theorem d_law_877 : decode code 877 = .ok (.iaload, 1) := dla_14 (877, .iaload, 1) (List.mem_of_getElem? (i := 29) rfl)
theorem d_law_878 : decode code 878 = .ok (.aload_n 0, 1) := dla_14 (878, .aload_n 0, 1) (List.mem_of_getElem? (i := 30) rfl)
theorem d_law_879 : decode code 879 = .ok (.iload_n 3, 1) := dla_14 (879, .iload_n 3, 1) (List.mem_of_getElem? (i := 31) rfl)
theorem d_law_880 : decode code 880 = .ok (.iconst 2, 1) := dla_14 (880, .iconst 2, 1) (List.mem_of_getElem? (i := 32) rfl)
theorem d_law_881 : decode code 881 = .ok (.iadd, 1) := dla_14 (881, .iadd, 1) (List.mem_of_getElem? (i := 33) rfl)
theorem d_law_882 : decode code 882 = .ok (.iaload, 1) := dla_14 (882, .iaload, 1) (List.mem_of_getElem? (i := 34) rfl)
theorem d_law_883 : decode code 883 = .ok (.aload_n 0, 1) := dla_14 (883, .aload_n 0, 1) (List.mem_of_getElem? (i := 35) rfl)
theorem d_law_884 : decode code 884 = .ok (.iload_n 3, 1) := dla_14 (884, .iload_n 3, 1) (List.mem_of_getElem? (i := 36) rfl)
theorem d_law_885 : decode code 885 = .ok (.iconst 3, 1) := dla_14 (885, .iconst 3, 1) (List.mem_of_getElem? (i := 37) rfl)
theorem d_law_886 : decode code 886 = .ok (.iadd, 1) := dla_14 (886, .iadd, 1) (List.mem_of_getElem? (i := 38) rfl)
theorem d_law_887 : decode code 887 = .ok (.iaload, 1) := dla_14 (887, .iaload, 1) (List.mem_of_getElem? (i := 39) rfl)
def dli_15 : List (Nat × Instr × Nat) := [(888, .invokevirtual 111, 3), (891, .pop, 1), (892, .goto 250, 3), (895, .aload_n 1, 1), (896, .aload_n 0, 1), (897, .iload_n 3, 1), (898, .iconst 1, 1), (899, .iadd, 1), (900, .iaload, 1), (901, .aload_n 0, 1), (902, .iload_n 3, 1), (903, .iconst 2, 1), (904, .iadd, 1), (905, .iaload, 1), (906, .aload_n 0, 1), (907, .iload_n 3, 1), (908, .iconst 3, 1), (909, .iadd, 1), (910, .iaload, 1), (911, .aload_n 0, 1), (912, .iload_n 3, 1), (913, .iconst 4, 1), (914, .iadd, 1), (915, .iaload, 1), (916, .invokevirtual 112, 3), (919, .pop, 1), (920, .aload_n 2, 1), (921, .aload_n 0, 1), (922, .iload_n 3, 1), (923, .iconst 1, 1), (924, .iadd, 1), (925, .iaload, 1), (926, .aload_n 0, 1), (927, .iload_n 3, 1), (928, .iconst 2, 1), (929, .iadd, 1), (930, .iaload, 1), (931, .aload_n 0, 1), (932, .iload_n 3, 1), (933, .iconst 3, 1)]
set_option maxRecDepth 100000 in
theorem dla_15 : ∀ q ∈ dli_15, decode code q.1 = .ok q.2 := by decide +kernel
theorem d_law_888 : decode code 888 = .ok (.invokevirtual 111, 3) := dla_15 (888, .invokevirtual 111, 3) (List.mem_of_getElem? (i := 0) rfl)
theorem d_law_891 : decode code 891 = .ok (.pop, 1) := dla_15 (891, .pop, 1) (List.mem_of_getElem? (i := 1) rfl)
theorem d_law_892 : decode code 892 = .ok (.goto 250, 3) := dla_15 (892, .goto 250, 3) (List.mem_of_getElem? (i := 2) rfl)
theorem d_law_895 : decode code 895 = .ok (.aload_n 1, 1) := dla_15 (895, .aload_n 1, 1) (List.mem_of_getElem? (i := 3) rfl)
theorem d_law_896 : decode code 896 = .ok (.aload_n 0, 1) := dla_15 (896, .aload_n 0, 1) (List.mem_of_getElem? (i := 4) rfl)
theorem d_law_897 : decode code 897 = .ok (.iload_n 3, 1) := dla_15 (897, .iload_n 3, 1) (List.mem_of_getElem? (i := 5) rfl)
theorem d_law_898 : decode code 898 = .ok (.iconst 1, 1) := dla_15 (898, .iconst 1, 1) (List.mem_of_getElem? (i := 6) rfl)
theorem d_law_899 : decode code 899 = .ok (.iadd, 1) := dla_15 (899, .iadd, 1) (List.mem_of_getElem? (i := 7) rfl)
theorem d_law_900 : decode code 900 = .ok (.iaload, 1) := dla_15 (900, .iaload, 1) (List.mem_of_getElem? (i := 8) rfl)
theorem d_law_901 : decode code 901 = .ok (.aload_n 0, 1) := dla_15 (901, .aload_n 0, 1) (List.mem_of_getElem? (i := 9) rfl)
theorem d_law_902 : decode code 902 = .ok (.iload_n 3, 1) := dla_15 (902, .iload_n 3, 1) (List.mem_of_getElem? (i := 10) rfl)
theorem d_law_903 : decode code 903 = .ok (.iconst 2, 1) := dla_15 (903, .iconst 2, 1) (List.mem_of_getElem? (i := 11) rfl)
theorem d_law_904 : decode code 904 = .ok (.iadd, 1) := dla_15 (904, .iadd, 1) (List.mem_of_getElem? (i := 12) rfl)
theorem d_law_905 : decode code 905 = .ok (.iaload, 1) := dla_15 (905, .iaload, 1) (List.mem_of_getElem? (i := 13) rfl)
theorem d_law_906 : decode code 906 = .ok (.aload_n 0, 1) := dla_15 (906, .aload_n 0, 1) (List.mem_of_getElem? (i := 14) rfl)
theorem d_law_907 : decode code 907 = .ok (.iload_n 3, 1) := dla_15 (907, .iload_n 3, 1) (List.mem_of_getElem? (i := 15) rfl)
theorem d_law_908 : decode code 908 = .ok (.iconst 3, 1) := dla_15 (908, .iconst 3, 1) (List.mem_of_getElem? (i := 16) rfl)
theorem d_law_909 : decode code 909 = .ok (.iadd, 1) := dla_15 (909, .iadd, 1) (List.mem_of_getElem? (i := 17) rfl)
theorem d_law_910 : decode code 910 = .ok (.iaload, 1) := dla_15 (910, .iaload, 1) (List.mem_of_getElem? (i := 18) rfl)
theorem d_law_911 : decode code 911 = .ok (.aload_n 0, 1) := dla_15 (911, .aload_n 0, 1) (List.mem_of_getElem? (i := 19) rfl)
theorem d_law_912 : decode code 912 = .ok (.iload_n 3, 1) := dla_15 (912, .iload_n 3, 1) (List.mem_of_getElem? (i := 20) rfl)
theorem d_law_913 : decode code 913 = .ok (.iconst 4, 1) := dla_15 (913, .iconst 4, 1) (List.mem_of_getElem? (i := 21) rfl)
theorem d_law_914 : decode code 914 = .ok (.iadd, 1) := dla_15 (914, .iadd, 1) (List.mem_of_getElem? (i := 22) rfl)
theorem d_law_915 : decode code 915 = .ok (.iaload, 1) := dla_15 (915, .iaload, 1) (List.mem_of_getElem? (i := 23) rfl)
theorem d_law_916 : decode code 916 = .ok (.invokevirtual 112, 3) := dla_15 (916, .invokevirtual 112, 3) (List.mem_of_getElem? (i := 24) rfl)
theorem d_law_919 : decode code 919 = .ok (.pop, 1) := dla_15 (919, .pop, 1) (List.mem_of_getElem? (i := 25) rfl)
theorem d_law_920 : decode code 920 = .ok (.aload_n 2, 1) := dla_15 (920, .aload_n 2, 1) (List.mem_of_getElem? (i := 26) rfl)
theorem d_law_921 : decode code 921 = .ok (.aload_n 0, 1) := dla_15 (921, .aload_n 0, 1) (List.mem_of_getElem? (i := 27) rfl)
theorem d_law_922 : decode code 922 = .ok (.iload_n 3, 1) := dla_15 (922, .iload_n 3, 1) (List.mem_of_getElem? (i := 28) rfl)
theorem d_law_923 : decode code 923 = .ok (.iconst 1, 1) := dla_15 (923, .iconst 1, 1) (List.mem_of_getElem? (i := 29) rfl)
theorem d_law_924 : decode code 924 = .ok (.iadd, 1) := dla_15 (924, .iadd, 1) (List.mem_of_getElem? (i := 30) rfl)
theorem d_law_925 : decode code 925 = .ok (.iaload, 1) := dla_15 (925, .iaload, 1) (List.mem_of_getElem? (i := 31) rfl)
theorem d_law_926 : decode code 926 = .ok (.aload_n 0, 1) := dla_15 (926, .aload_n 0, 1) (List.mem_of_getElem? (i := 32) rfl)
theorem d_law_927 : decode code 927 = .ok (.iload_n 3, 1) := dla_15 (927, .iload_n 3, 1) (List.mem_of_getElem? (i := 33) rfl)
theorem d_law_928 : decode code 928 = .ok (.iconst 2, 1) := dla_15 (928, .iconst 2, 1) (List.mem_of_getElem? (i := 34) rfl)
theorem d_law_929 : decode code 929 = .ok (.iadd, 1) := dla_15 (929, .iadd, 1) (List.mem_of_getElem? (i := 35) rfl)
theorem d_law_930 : decode code 930 = .ok (.iaload, 1) := dla_15 (930, .iaload, 1) (List.mem_of_getElem? (i := 36) rfl)
theorem d_law_931 : decode code 931 = .ok (.aload_n 0, 1) := dla_15 (931, .aload_n 0, 1) (List.mem_of_getElem? (i := 37) rfl)
theorem d_law_932 : decode code 932 = .ok (.iload_n 3, 1) := dla_15 (932, .iload_n 3, 1) (List.mem_of_getElem? (i := 38) rfl)
theorem d_law_933 : decode code 933 = .ok (.iconst 3, 1) := dla_15 (933, .iconst 3, 1) (List.mem_of_getElem? (i := 39) rfl)
def dli_16 : List (Nat × Instr × Nat) := [(934, .iadd, 1), (935, .iaload, 1), (936, .aload_n 0, 1), (937, .iload_n 3, 1), (938, .iconst 4, 1), (939, .iadd, 1), (940, .iaload, 1), (941, .invokevirtual 115, 3), (944, .pop, 1), (945, .goto 197, 3), (948, .aload_n 1, 1), (949, .aload_n 0, 1), (950, .iload_n 3, 1), (951, .iconst 1, 1), (952, .iadd, 1), (953, .iaload, 1), (954, .aload_n 0, 1), (955, .iload_n 3, 1), (956, .iconst 2, 1), (957, .iadd, 1), (958, .iaload, 1), (959, .aload_n 0, 1), (960, .iload_n 3, 1), (961, .iconst 3, 1), (962, .iadd, 1), (963, .iaload, 1), (964, .invokevirtual 116, 3), (967, .pop, 1), (968, .aload_n 2, 1), (969, .aload_n 0, 1), (970, .iload_n 3, 1), (971, .iconst 1, 1), (972, .iadd, 1), (973, .iaload, 1), (974, .aload_n 0, 1), (975, .iload_n 3, 1), (976, .iconst 2, 1), (977, .iadd, 1), (978, .iaload, 1), (979, .aload_n 0, 1)]
set_option maxRecDepth 100000 in
theorem dla_16 : ∀ q ∈ dli_16, decode code q.1 = .ok q.2 := by decide +kernel
theorem d_law_934 : decode code 934 = .ok (.iadd, 1) := dla_16 (934, .iadd, 1) (List.mem_of_getElem? (i := 0) rfl)
theorem d_law_935 : decode code 935 = .ok (.iaload, 1) := dla_16 (935, .iaload, 1) (List.mem_of_getElem? (i := 1) rfl)
theorem d_law_936 : decode code 936 = .ok (.aload_n 0, 1) := dla_16 (936, .aload_n 0, 1) (List.mem_of_getElem? (i := 2) rfl)
theorem d_law_937 : decode code 937 = .ok (.iload_n 3, 1) := dla_16 (937, .iload_n 3, 1) (List.mem_of_getElem? (i := 3) rfl)
theorem d_law_938 : decode code 938 = .ok (.iconst 4, 1) := dla_16 (938, .iconst 4, 1) (List.mem_of_getElem? (i := 4) rfl)
theorem d_law_939 : decode code 939 = .ok (.iadd, 1) := dla_16 (939, .iadd, 1) (List.mem_of_getElem? (i := 5) rfl)
theorem d_law_940 : decode code 940 = .ok (.iaload, 1) := dla_16 (940, .iaload, 1) (List.mem_of_getElem? (i := 6) rfl)
theorem d_law_941 : decode code 941 = .ok (.invokevirtual 115, 3) := dla_16 (941, .invokevirtual 115, 3) (List.mem_of_getElem? (i := 7) rfl)
theorem d_law_944 : decode code 944 = .ok (.pop, 1) := dla_16 (944, .pop, 1) (List.mem_of_getElem? (i := 8) rfl)
theorem d_law_945 : decode code 945 = .ok (.goto 197, 3) := dla_16 (945, .goto 197, 3) (List.mem_of_getElem? (i := 9) rfl)
theorem d_law_948 : decode code 948 = .ok (.aload_n 1, 1) := dla_16 (948, .aload_n 1, 1) (List.mem_of_getElem? (i := 10) rfl)
theorem d_law_949 : decode code 949 = .ok (.aload_n 0, 1) := dla_16 (949, .aload_n 0, 1) (List.mem_of_getElem? (i := 11) rfl)
theorem d_law_950 : decode code 950 = .ok (.iload_n 3, 1) := dla_16 (950, .iload_n 3, 1) (List.mem_of_getElem? (i := 12) rfl)
theorem d_law_951 : decode code 951 = .ok (.iconst 1, 1) := dla_16 (951, .iconst 1, 1) (List.mem_of_getElem? (i := 13) rfl)
theorem d_law_952 : decode code 952 = .ok (.iadd, 1) := dla_16 (952, .iadd, 1) (List.mem_of_getElem? (i := 14) rfl)
theorem d_law_953 : decode code 953 = .ok (.iaload, 1) := dla_16 (953, .iaload, 1) (List.mem_of_getElem? (i := 15) rfl)
theorem d_law_954 : decode code 954 = .ok (.aload_n 0, 1) := dla_16 (954, .aload_n 0, 1) (List.mem_of_getElem? (i := 16) rfl)
theorem d_law_955 : decode code 955 = .ok (.iload_n 3, 1) := dla_16 (955, .iload_n 3, 1) (List.mem_of_getElem? (i := 17) rfl)
theorem d_law_956 : decode code 956 = .ok (.iconst 2, 1) := dla_16 (956, .iconst 2, 1) (List.mem_of_getElem? (i := 18) rfl)
theorem d_law_957 : decode code 957 = .ok (.iadd, 1) := dla_16 (957, .iadd, 1) (List.mem_of_getElem? (i := 19) rfl)
theorem d_law_958 : decode code 958 = .ok (.iaload, 1) := dla_16 (958, .iaload, 1) (List.mem_of_getElem? (i := 20) rfl)
theorem d_law_959 : decode code 959 = .ok (.aload_n 0, 1) := dla_16 (959, .aload_n 0, 1) (List.mem_of_getElem? (i := 21) rfl)
theorem d_law_960 : decode code 960 = .ok (.iload_n 3, 1) := dla_16 (960, .iload_n 3, 1) (List.mem_of_getElem? (i := 22) rfl)
theorem d_law_961 : decode code 961 = .ok (.iconst 3, 1) := dla_16 (961, .iconst 3, 1) (List.mem_of_getElem? (i := 23) rfl)
theorem d_law_962 : decode code 962 = .ok (.iadd, 1) := dla_16 (962, .iadd, 1) (List.mem_of_getElem? (i := 24) rfl)
theorem d_law_963 : decode code 963 = .ok (.iaload, 1) := dla_16 (963, .iaload, 1) (List.mem_of_getElem? (i := 25) rfl)
theorem d_law_964 : decode code 964 = .ok (.invokevirtual 116, 3) := dla_16 (964, .invokevirtual 116, 3) (List.mem_of_getElem? (i := 26) rfl)
theorem d_law_967 : decode code 967 = .ok (.pop, 1) := dla_16 (967, .pop, 1) (List.mem_of_getElem? (i := 27) rfl)
theorem d_law_968 : decode code 968 = .ok (.aload_n 2, 1) := dla_16 (968, .aload_n 2, 1) (List.mem_of_getElem? (i := 28) rfl)
theorem d_law_969 : decode code 969 = .ok (.aload_n 0, 1) := dla_16 (969, .aload_n 0, 1) (List.mem_of_getElem? (i := 29) rfl)
theorem d_law_970 : decode code 970 = .ok (.iload_n 3, 1) := dla_16 (970, .iload_n 3, 1) (List.mem_of_getElem? (i := 30) rfl)
theorem d_law_971 : decode code 971 = .ok (.iconst 1, 1) := dla_16 (971, .iconst 1, 1) (List.mem_of_getElem? (i := 31) rfl)
theorem d_law_972 : decode code 972 = .ok (.iadd, 1) := dla_16 (972, .iadd, 1) (List.mem_of_getElem? (i := 32) rfl)
theorem d_law_973 : decode code 973 = .ok (.iaload, 1) := dla_16 (973, .iaload, 1) (List.mem_of_getElem? (i := 33) rfl)
theorem d_law_974 : decode code 974 = .ok (.aload_n 0, 1) := dla_16 (974, .aload_n 0, 1) (List.mem_of_getElem? (i := 34) rfl)
theorem d_law_975 : decode code 975 = .ok (.iload_n 3, 1) := dla_16 (975, .iload_n 3, 1) (List.mem_of_getElem? (i := 35) rfl)
theorem d_law_976 : decode code 976 = .ok (.iconst 2, 1) := dla_16 (976, .iconst 2, 1) (List.mem_of_getElem? (i := 36) rfl)
theorem d_law_977 : decode code 977 = .ok (.iadd, 1) := dla_16 (977, .iadd, 1) (List.mem_of_getElem? (i := 37) rfl)
theorem d_law_978 : decode code 978 = .ok (.iaload, 1) := dla_16 (978, .iaload, 1) (List.mem_of_getElem? (i := 38) rfl)
theorem d_law_979 : decode code 979 = .ok (.aload_n 0, 1) := dla_16 (979, .aload_n 0, 1) (List.mem_of_getElem? (i := 39) rfl)
def dli_17 : List (Nat × Instr × Nat) := [(980, .iload_n 3, 1), (981, .iconst 3, 1), (982, .iadd, 1), (983, .iaload, 1), (984, .invokevirtual 119, 3), (987, .pop, 1), (988, .goto 154, 3), (991, .aload_n 1, 1), (992, .invokevirtual 120, 3), (995, .pop, 1), (996, .aload_n 2, 1), (997, .invokevirtual 123, 3), (1000, .pop, 1), (1001, .goto 141, 3), (1004, .aload_n 1, 1), (1005, .aload_n 0, 1), (1006, .iload_n 3, 1), (1007, .iconst 1, 1), (1008, .iadd, 1), (1009, .iaload, 1), (1010, .invokevirtual 124, 3), (1013, .pop, 1), (1014, .aload_n 2, 1), (1015, .aload_n 0, 1), (1016, .iload_n 3, 1), (1017, .iconst 1, 1), (1018, .iadd, 1), (1019, .iaload, 1), (1020, .invokevirtual 127, 3), (1023, .pop, 1), (1024, .goto 118, 3), (1027, .aload_n 1, 1), (1028, .aload_n 0, 1), (1029, .iload_n 3, 1), (1030, .iconst 1, 1), (1031, .iadd, 1), (1032, .iaload, 1), (1033, .invokevirtual 128, 3), (1036, .pop, 1), (1037, .aload_n 2, 1)]
set_option maxRecDepth 100000 in
theorem dla_17 : ∀ q ∈ dli_17, decode code q.1 = .ok q.2 := by decide +kernel
theorem d_law_980 : decode code 980 = .ok (.iload_n 3, 1) := dla_17 (980, .iload_n 3, 1) (List.mem_of_getElem? (i := 0) rfl)
theorem d_law_981 : decode code 981 = .ok (.iconst 3, 1) := dla_17 (981, .iconst 3, 1) (List.mem_of_getElem? (i := 1) rfl)
theorem d_law_982 : decode code 982 = .ok (.iadd, 1) := dla_17 (982, .iadd, 1) (List.mem_of_getElem? (i := 2) rfl)
theorem d_law_983 : decode code 983 = .ok (.iaload, 1) := dla_17 (983, .iaload, 1) (List.mem_of_getElem? (i := 3) rfl)
theorem d_law_984 : decode code 984 = .ok (.invokevirtual 119, 3) := dla_17 (984, .invokevirtual 119, 3) (List.mem_of_getElem? (i := 4) rfl)
theorem d_law_987 : decode code 987 = .ok (.pop, 1) := dla_17 (987, .pop, 1) (List.mem_of_getElem? (i := 5) rfl)
theorem d_law_988 : decode code 988 = .ok (.goto 154, 3) := dla_17 (988, .goto 154, 3) (List.mem_of_getElem? (i := 6) rfl)
theorem d_law_991 : decode code 991 = .ok (.aload_n 1, 1) := dla_17 (991, .aload_n 1, 1) (List.mem_of_getElem? (i := 7) rfl)
theorem d_law_992 : decode code 992 = .ok (.invokevirtual 120, 3) := dla_17 (992, .invokevirtual 120, 3) (List.mem_of_getElem? (i := 8) rfl)
theorem d_law_995 : decode code 995 = .ok (.pop, 1) := dla_17 (995, .pop, 1) (List.mem_of_getElem? (i := 9) rfl)
theorem d_law_996 : decode code 996 = .ok (.aload_n 2, 1) := dla_17 (996, .aload_n 2, 1) (List.mem_of_getElem? (i := 10) rfl)
theorem d_law_997 : decode code 997 = .ok (.invokevirtual 123, 3) := dla_17 (997, .invokevirtual 123, 3) (List.mem_of_getElem? (i := 11) rfl)
theorem d_law_1000 : decode code 1000 = .ok (.pop, 1) := dla_17 (1000, .pop, 1) (List.mem_of_getElem? (i := 12) rfl)
theorem d_law_1001 : decode code 1001 = .ok (.goto 141, 3) := dla_17 (1001, .goto 141, 3) (List.mem_of_getElem? (i := 13) rfl)
theorem d_law_1004 : decode code 1004 = .ok (.aload_n 1, 1) := dla_17 (1004, .aload_n 1, 1) (List.mem_of_getElem? (i := 14) rfl)
theorem d_law_1005 : decode code 1005 = .ok (.aload_n 0, 1) := dla_17 (1005, .aload_n 0, 1) (List.mem_of_getElem? (i := 15) rfl)
theorem d_law_1006 : decode code 1006 = .ok (.iload_n 3, 1) := dla_17 (1006, .iload_n 3, 1) (List.mem_of_getElem? (i := 16) rfl)
theorem d_law_1007 : decode code 1007 = .ok (.iconst 1, 1) := dla_17 (1007, .iconst 1, 1) (List.mem_of_getElem? (i := 17) rfl)
theorem d_law_1008 : decode code 1008 = .ok (.iadd, 1) := dla_17 (1008, .iadd, 1) (List.mem_of_getElem? (i := 18) rfl)
theorem d_law_1009 : decode code 1009 = .ok (.iaload, 1) := dla_17 (1009, .iaload, 1) (List.mem_of_getElem? (i := 19) rfl)
theorem d_law_1010 : decode code 1010 = .ok (.invokevirtual 124, 3) := dla_17 (1010, .invokevirtual 124, 3) (List.mem_of_getElem? (i := 20) rfl)
theorem d_law_1013 : decode code 1013 = .ok (.pop, 1) := dla_17 (1013, .pop, 1) (List.mem_of_getElem? (i := 21) rfl)
theorem d_law_1014 : decode code 1014 = .ok (.aload_n 2, 1) := dla_17 (1014, .aload_n 2, 1) (List.mem_of_getElem? (i := 22) rfl)
theorem d_law_1015 : decode code 1015 = .ok (.aload_n 0, 1) := dla_17 (1015, .aload_n 0, 1) (List.mem_of_getElem? (i := 23) rfl)
theorem d_law_1016 : decode code 1016 = .ok (.iload_n 3, 1) := dla_17 (1016, .iload_n 3, 1) (List.mem_of_getElem? (i := 24) rfl)
theorem d_law_1017 : decode code 1017 = .ok (.iconst 1, 1) := dla_17 (1017, .iconst 1, 1) (List.mem_of_getElem? (i := 25) rfl)
theorem d_law_1018 : decode code 1018 = .ok (.iadd, 1) := dla_17 (1018, .iadd, 1) (List.mem_of_getElem? (i := 26) rfl)
theorem d_law_1019 : decode code 1019 = .ok (.iaload, 1) := dla_17 (1019, .iaload, 1) (List.mem_of_getElem? (i := 27) rfl)
theorem d_law_1020 : decode code 1020 = .ok (.invokevirtual 127, 3) := dla_17 (1020, .invokevirtual 127, 3) (List.mem_of_getElem? (i := 28) rfl)
theorem d_law_1023 : decode code 1023 = .ok (.pop, 1) := dla_17 (1023, .pop, 1) (List.mem_of_getElem? (i := 29) rfl)
theorem d_law_1024 : decode code 1024 = .ok (.goto 118, 3) := dla_17 (1024, .goto 118, 3) (List.mem_of_getElem? (i := 30) rfl)
theorem d_law_1027 : decode code 1027 = .ok (.aload_n 1, 1) := dla_17 (1027, .aload_n 1, 1) (List.mem_of_getElem? (i := 31) rfl)
theorem d_law_1028 : decode code 1028 = .ok (.aload_n 0, 1) := dla_17 (1028, .aload_n 0, 1) (List.mem_of_getElem? (i := 32) rfl)
theorem d_law_1029 : decode code 1029 = .ok (.iload_n 3, 1) := dla_17 (1029, .iload_n 3, 1) (List.mem_of_getElem? (i := 33) rfl)
theorem d_law_1030 : decode code 1030 = .ok (.iconst 1, 1) := dla_17 (1030, .iconst 1, 1) (List.mem_of_getElem? (i := 34) rfl)
theorem d_law_1031 : decode code 1031 = .ok (.iadd, 1) := dla_17 (1031, .iadd, 1) (List.mem_of_getElem? (i := 35) rfl)
theorem d_law_1032 : decode code 1032 = .ok (.iaload, 1) := dla_17 (1032, .iaload, 1) (List.mem_of_getElem? (i := 36) rfl)
theorem d_law_1033 : decode code 1033 = .ok (.invokevirtual 128, 3) := dla_17 (1033, .invokevirtual 128, 3) (List.mem_of_getElem? (i := 37) rfl)
theorem d_law_1036 : decode code 1036 = .ok (.pop, 1) := dla_17 (1036, .pop, 1) (List.mem_of_getElem? (i := 38) rfl)
theorem d_law_1037 : decode code 1037 = .ok (.aload_n 2, 1) := dla_17 (1037, .aload_n 2, 1) (List.mem_of_getElem? (i := 39) rfl)
def dli_18 : List (Nat × Instr × Nat) := [(1038, .aload_n 0, 1), (1039, .iload_n 3, 1), (1040, .iconst 1, 1), (1041, .iadd, 1), (1042, .iaload, 1), (1043, .invokevirtual 131, 3), (1046, .pop, 1), (1047, .goto 95, 3), (1050, .aload_n 1, 1), (1051, .aload_n 0, 1), (1052, .iload_n 3, 1), (1053, .iconst 1, 1), (1054, .iadd, 1), (1055, .iaload, 1), (1056, .invokevirtual 132, 3), (1059, .pop, 1), (1060, .aload_n 2, 1), (1061, .aload_n 0, 1), (1062, .iload_n 3, 1), (1063, .iconst 1, 1), (1064, .iadd, 1), (1065, .iaload, 1), (1066, .invokevirtual 135, 3), (1069, .pop, 1), (1070, .goto 72, 3), (1073, .aload_n 1, 1), (1074, .aload_n 0, 1), (1075, .iload_n 3, 1), (1076, .iconst 1, 1), (1077, .iadd, 1), (1078, .iaload, 1), (1079, .invokevirtual 136, 3), (1082, .pop, 1), (1083, .aload_n 2, 1), (1084, .aload_n 0, 1), (1085, .iload_n 3, 1), (1086, .iconst 1, 1), (1087, .iadd, 1), (1088, .iaload, 1), (1089, .invokevirtual 140, 3)]
set_option maxRecDepth 100000 in
theorem dla_18 : ∀ q ∈ dli_18, decode code q.1 = .ok q.2 := by decide +kernel
theorem d_law_1038 : decode code 1038 = .ok (.aload_n 0, 1) := dla_18 (1038, .aload_n 0, 1) (List.mem_of_getElem? (i := 0) rfl)
theorem d_law_1039 : decode code 1039 = .ok (.iload_n 3, 1) := dla_18 (1039, .iload_n 3, 1) (List.mem_of_getElem? (i := 1) rfl)
theorem d_law_1040 : decode code 1040 = .ok (.iconst 1, 1) := dla_18 (1040, .iconst 1, 1) (List.mem_of_getElem? (i := 2) rfl)
theorem d_law_1041 : decode code 1041 = .ok (.iadd, 1) := dla_18 (1041, .iadd, 1) (List.mem_of_getElem? (i := 3) rfl)
theorem d_law_1042 : decode code 1042 = .ok (.iaload, 1) := dla_18 (1042, .iaload, 1) (List.mem_of_getElem? (i := 4) rfl)
theorem d_law_1043 : decode code 1043 = .ok (.invokevirtual 131, 3) := dla_18 (1043, .invokevirtual 131, 3) (List.mem_of_getElem? (i := 5) rfl)
theorem d_law_1046 : decode code 1046 = .ok (.pop, 1) := dla_18 (1046, .pop, 1) (List.mem_of_getElem? (i := 6) rfl)
theorem d_law_1047 : decode code 1047 = .ok (.goto 95, 3) := dla_18 (1047, .goto 95, 3) (List.mem_of_getElem? (i := 7) rfl)
theorem d_law_1050 : decode code 1050 = .ok (.aload_n 1, 1) := dla_18 (1050, .aload_n 1, 1) (List.mem_of_getElem? (i := 8) rfl)
theorem d_law_1051 : decode code 1051 = .ok (.aload_n 0, 1) := dla_18 (1051, .aload_n 0, 1) (List.mem_of_getElem? (i := 9) rfl)
theorem d_law_1052 : decode code 1052 = .ok (.iload_n 3, 1) := dla_18 (1052, .iload_n 3, 1) (List.mem_of_getElem? (i := 10) rfl)
theorem d_law_1053 : decode code 1053 = .ok (.iconst 1, 1) := dla_18 (1053, .iconst 1, 1) (List.mem_of_getElem? (i := 11) rfl)
theorem d_law_1054 : decode code 1054 = .ok (.iadd, 1) := dla_18 (1054, .iadd, 1) (List.mem_of_getElem? (i := 12) rfl)
theorem d_law_1055 : decode code 1055 = .ok (.iaload, 1) := dla_18 (1055, .iaload, 1) (List.mem_of_getElem? (i := 13) rfl)
theorem d_law_1056 : decode code 1056 = .ok (.invokevirtual 132, 3) := dla_18 (1056, .invokevirtual 132, 3) (List.mem_of_getElem? (i := 14) rfl)
theorem d_law_1059 : decode code 1059 = .ok (.pop, 1) := dla_18 (1059, .pop, 1) (List.mem_of_getElem? (i := 15) rfl)
theorem d_law_1060 : decode code 1060 = .ok (.aload_n 2, 1) := dla_18 (1060, .aload_n 2, 1) (List.mem_of_getElem? (i := 16) rfl)
theorem d_law_1061 : decode code 1061 = .ok (.aload_n 0, 1) := dla_18 (1061, .aload_n 0, 1) (List.mem_of_getElem? (i := 17) rfl)
theorem d_law_1062 : decode code 1062 = .ok (.iload_n 3, 1) := dla_18 (1062, .iload_n 3, 1) (List.mem_of_getElem? (i := 18) rfl)
theorem d_law_1063 : decode code 1063 = .ok (.iconst 1, 1) := dla_18 (1063, .iconst 1, 1) (List.mem_of_getElem? (i := 19) rfl)
theorem d_law_1064 : decode code 1064 = .ok (.iadd, 1) := dla_18 (1064, .iadd, 1) (List.mem_of_getElem? (i := 20) rfl)
theorem d_law_1065 : decode code 1065 = .ok (.iaload, 1) := dla_18 (1065, .iaload, 1) (List.mem_of_getElem? (i := 21) rfl)
theorem d_law_1066 : decode code 1066 = .ok (.invokevirtual 135, 3) := dla_18 (1066, .invokevirtual 135, 3) (List.mem_of_getElem? (i := 22) rfl)
theorem d_law_1069 : decode code 1069 = .ok (.pop, 1) := dla_18 (1069, .pop, 1) (List.mem_of_getElem? (i := 23) rfl)
theorem d_law_1070 : decode code 1070 = .ok (.goto 72, 3) := dla_18 (1070, .goto 72, 3) (List.mem_of_getElem? (i := 24) rfl)
theorem d_law_1073 : decode code 1073 = .ok (.aload_n 1, 1) := dla_18 (1073, .aload_n 1, 1) (List.mem_of_getElem? (i := 25) rfl)
theorem d_law_1074 : decode code 1074 = .ok (.aload_n 0, 1) := dla_18 (1074, .aload_n 0, 1) (List.mem_of_getElem? (i := 26) rfl)
theorem d_law_1075 : decode code 1075 = .ok (.iload_n 3, 1) := dla_18 (1075, .iload_n 3, 1) (List.mem_of_getElem? (i := 27) rfl)
theorem d_law_1076 : decode code 1076 = .ok (.iconst 1, 1) := dla_18 (1076, .iconst 1, 1) (List.mem_of_getElem? (i := 28) rfl)
theorem d_law_1077 : decode code 1077 = .ok (.iadd, 1) := dla_18 (1077, .iadd, 1) (List.mem_of_getElem? (i := 29) rfl)
theorem d_law_1078 : decode code 1078 = .ok (.iaload, 1) := dla_18 (1078, .iaload, 1) (List.mem_of_getElem? (i := 30) rfl)
theorem d_law_1079 : decode code 1079 = .ok (.invokevirtual 136, 3) := dla_18 (1079, .invokevirtual 136, 3) (List.mem_of_getElem? (i := 31) rfl)
theorem d_law_1082 : decode code 1082 = .ok (.pop, 1) := dla_18 (1082, .pop, 1) (List.mem_of_getElem? (i := 32) rfl)
theorem d_law_1083 : decode code 1083 = .ok (.aload_n 2, 1) := dla_18 (1083, .aload_n 2, 1) (List.mem_of_getElem? (i := 33) rfl)
theorem d_law_1084 : decode code 1084 = .ok (.aload_n 0, 1) := dla_18 (1084, .aload_n 0, 1) (List.mem_of_getElem? (i := 34) rfl)
theorem d_law_1085 : decode code 1085 = .ok (.iload_n 3, 1) := dla_18 (1085, .iload_n 3, 1) (List.mem_of_getElem? (i := 35) rfl)
theorem d_law_1086 : decode code 1086 = .ok (.iconst 1, 1) := dla_18 (1086, .iconst 1, 1) (List.mem_of_getElem? (i := 36) rfl)
theorem d_law_1087 : decode code 1087 = .ok (.iadd, 1) := dla_18 (1087, .iadd, 1) (List.mem_of_getElem? (i := 37) rfl)
theorem d_law_1088 : decode code 1088 = .ok (.iaload, 1) := dla_18 (1088, .iaload, 1) (List.mem_of_getElem? (i := 38) rfl)
theorem d_law_1089 : decode code 1089 = .ok (.invokevirtual 140, 3) := dla_18 (1089, .invokevirtual 140, 3) (List.mem_of_getElem? (i := 39) rfl)
def dli_19 : List (Nat × Instr × Nat) := [(1092, .pop, 1), (1093, .goto 49, 3), (1096, .aload_n 1, 1), (1097, .aload_n 0, 1), (1098, .iload_n 3, 1), (1099, .iconst 1, 1), (1100, .iadd, 1), (1101, .iaload, 1), (1102, .invokevirtual 141, 3), (1105, .pop, 1), (1106, .aload_n 2, 1), (1107, .aload_n 0, 1), (1108, .iload_n 3, 1), (1109, .iconst 1, 1), (1110, .iadd, 1), (1111, .iaload, 1), (1112, .invokevirtual 144, 3), (1115, .pop, 1), (1116, .goto 26, 3), (1119, .aload_n 1, 1), (1120, .aload_n 0, 1), (1121, .iload_n 3, 1), (1122, .iconst 1, 1), (1123, .iadd, 1), (1124, .iaload, 1), (1125, .invokevirtual 145, 3), (1128, .pop, 1), (1129, .aload_n 2, 1), (1130, .aload_n 0, 1), (1131, .iload_n 3, 1), (1132, .iconst 1, 1), (1133, .iadd, 1), (1134, .iaload, 1), (1135, .invokevirtual 148, 3), (1138, .pop, 1), (1139, .goto 3, 3), (1142, .iinc 3 6, 3), (1145, .goto (-1127), 3), (1148, .iconst 1, 1), (1149, .ireturn, 1)]
set_option maxRecDepth 100000 in
theorem dla_19 : ∀ q ∈ dli_19, decode code q.1 = .ok q.2 := by decide +kernel
theorem d_law_1092 : decode code 1092 = .ok (.pop, 1) := dla_19 (1092, .pop, 1) (List.mem_of_getElem? (i := 0) rfl)
theorem d_law_1093 : decode code 1093 = .ok (.goto 49, 3) := dla_19 (1093, .goto 49, 3) (List.mem_of_getElem? (i := 1) rfl)
theorem d_law_1096 : decode code 1096 = .ok (.aload_n 1, 1) := dla_19 (1096, .aload_n 1, 1) (List.mem_of_getElem? (i := 2) rfl)
theorem d_law_1097 : decode code 1097 = .ok (.aload_n 0, 1) := dla_19 (1097, .aload_n 0, 1) (List.mem_of_getElem? (i := 3) rfl)
theorem d_law_1098 : decode code 1098 = .ok (.iload_n 3, 1) := dla_19 (1098, .iload_n 3, 1) (List.mem_of_getElem? (i := 4) rfl)
theorem d_law_1099 : decode code 1099 = .ok (.iconst 1, 1) := dla_19 (1099, .iconst 1, 1) (List.mem_of_getElem? (i := 5) rfl)
theorem d_law_1100 : decode code 1100 = .ok (.iadd, 1) := dla_19 (1100, .iadd, 1) (List.mem_of_getElem? (i := 6) rfl)
theorem d_law_1101 : decode code 1101 = .ok (.iaload, 1) := dla_19 (1101, .iaload, 1) (List.mem_of_getElem? (i := 7) rfl)
theorem d_law_1102 : decode code 1102 = .ok (.invokevirtual 141, 3) := dla_19 (1102, .invokevirtual 141, 3) (List.mem_of_getElem? (i := 8) rfl)
theorem d_law_1105 : decode code 1105 = .ok (.pop, 1) := dla_19 (1105, .pop, 1) (List.mem_of_getElem? (i := 9) rfl)
theorem d_law_1106 : decode code 1106 = .ok (.aload_n 2, 1) := dla_19 (1106, .aload_n 2, 1) (List.mem_of_getElem? (i := 10) rfl)
theorem d_law_1107 : decode code 1107 = .ok (.aload_n 0, 1) := dla_19 (1107, .aload_n 0, 1) (List.mem_of_getElem? (i := 11) rfl)
theorem d_law_1108 : decode code 1108 = .ok (.iload_n 3, 1) := dla_19 (1108, .iload_n 3, 1) (List.mem_of_getElem? (i := 12) rfl)
theorem d_law_1109 : decode code 1109 = .ok (.iconst 1, 1) := dla_19 (1109, .iconst 1, 1) (List.mem_of_getElem? (i := 13) rfl)
theorem d_law_1110 : decode code 1110 = .ok (.iadd, 1) := dla_19 (1110, .iadd, 1) (List.mem_of_getElem? (i := 14) rfl)
theorem d_law_1111 : decode code 1111 = .ok (.iaload, 1) := dla_19 (1111, .iaload, 1) (List.mem_of_getElem? (i := 15) rfl)
theorem d_law_1112 : decode code 1112 = .ok (.invokevirtual 144, 3) := dla_19 (1112, .invokevirtual 144, 3) (List.mem_of_getElem? (i := 16) rfl)
theorem d_law_1115 : decode code 1115 = .ok (.pop, 1) := dla_19 (1115, .pop, 1) (List.mem_of_getElem? (i := 17) rfl)
theorem d_law_1116 : decode code 1116 = .ok (.goto 26, 3) := dla_19 (1116, .goto 26, 3) (List.mem_of_getElem? (i := 18) rfl)
theorem d_law_1119 : decode code 1119 = .ok (.aload_n 1, 1) := dla_19 (1119, .aload_n 1, 1) (List.mem_of_getElem? (i := 19) rfl)
theorem d_law_1120 : decode code 1120 = .ok (.aload_n 0, 1) := dla_19 (1120, .aload_n 0, 1) (List.mem_of_getElem? (i := 20) rfl)
theorem d_law_1121 : decode code 1121 = .ok (.iload_n 3, 1) := dla_19 (1121, .iload_n 3, 1) (List.mem_of_getElem? (i := 21) rfl)
theorem d_law_1122 : decode code 1122 = .ok (.iconst 1, 1) := dla_19 (1122, .iconst 1, 1) (List.mem_of_getElem? (i := 22) rfl)
theorem d_law_1123 : decode code 1123 = .ok (.iadd, 1) := dla_19 (1123, .iadd, 1) (List.mem_of_getElem? (i := 23) rfl)
theorem d_law_1124 : decode code 1124 = .ok (.iaload, 1) := dla_19 (1124, .iaload, 1) (List.mem_of_getElem? (i := 24) rfl)
theorem d_law_1125 : decode code 1125 = .ok (.invokevirtual 145, 3) := dla_19 (1125, .invokevirtual 145, 3) (List.mem_of_getElem? (i := 25) rfl)
theorem d_law_1128 : decode code 1128 = .ok (.pop, 1) := dla_19 (1128, .pop, 1) (List.mem_of_getElem? (i := 26) rfl)
theorem d_law_1129 : decode code 1129 = .ok (.aload_n 2, 1) := dla_19 (1129, .aload_n 2, 1) (List.mem_of_getElem? (i := 27) rfl)
theorem d_law_1130 : decode code 1130 = .ok (.aload_n 0, 1) := dla_19 (1130, .aload_n 0, 1) (List.mem_of_getElem? (i := 28) rfl)
theorem d_law_1131 : decode code 1131 = .ok (.iload_n 3, 1) := dla_19 (1131, .iload_n 3, 1) (List.mem_of_getElem? (i := 29) rfl)
theorem d_law_1132 : decode code 1132 = .ok (.iconst 1, 1) := dla_19 (1132, .iconst 1, 1) (List.mem_of_getElem? (i := 30) rfl)
theorem d_law_1133 : decode code 1133 = .ok (.iadd, 1) := dla_19 (1133, .iadd, 1) (List.mem_of_getElem? (i := 31) rfl)
theorem d_law_1134 : decode code 1134 = .ok (.iaload, 1) := dla_19 (1134, .iaload, 1) (List.mem_of_getElem? (i := 32) rfl)
theorem d_law_1135 : decode code 1135 = .ok (.invokevirtual 148, 3) := dla_19 (1135, .invokevirtual 148, 3) (List.mem_of_getElem? (i := 33) rfl)
theorem d_law_1138 : decode code 1138 = .ok (.pop, 1) := dla_19 (1138, .pop, 1) (List.mem_of_getElem? (i := 34) rfl)
theorem d_law_1139 : decode code 1139 = .ok (.goto 3, 3) := dla_19 (1139, .goto 3, 3) (List.mem_of_getElem? (i := 35) rfl)
theorem d_law_1142 : decode code 1142 = .ok (.iinc 3 6, 3) := dla_19 (1142, .iinc 3 6, 3) (List.mem_of_getElem? (i := 36) rfl)
theorem d_law_1145 : decode code 1145 = .ok (.goto (-1127), 3) := dla_19 (1145, .goto (-1127), 3) (List.mem_of_getElem? (i := 37) rfl)
theorem d_law_1148 : decode code 1148 = .ok (.iconst 1, 1) := dla_19 (1148, .iconst 1, 1) (List.mem_of_getElem? (i := 38) rfl)
theorem d_law_1149 : decode code 1149 = .ok (.ireturn, 1) := dla_19 (1149, .ireturn, 1) (List.mem_of_getElem? (i := 39) rfl)
