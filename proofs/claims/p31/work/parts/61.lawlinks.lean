set_option maxRecDepth 100000 in
theorem mk_Main_init : Cond.code y_Main_init.1 y_Main_init.2.1 y_Main_init.2.2.1 y_Main_init.2.2.2.1 ∈ gtb ∧ Cond.initialized y_Main_init.1.cls ∈ gtb ∧ y_Main_init.1.cls ≠ "java/lang/invoke/MethodHandle" ∧ y_Main_init.1.cls ≠ "java/lang/invoke/VarHandle" ∧ (parseMethodDescriptor y_Main_init.1.desc).map (fun d => d.parameters.length) = some 0 := ⟨(gtb_of (List.mem_append_right _ (List.mem_of_getElem? (i := 24) (by decide +kernel))) rfl), cz_Main, cx_Main.1, cx_Main.2, by decide +kernel⟩
set_option maxRecDepth 100000 in
theorem mi_Main_init : Cond.instanceMethod y_Main_init.1 ∈ gtb := (gtb_of (List.mem_append_right _ (List.mem_of_getElem? (i := 23) (by decide +kernel))) rfl)
set_option maxRecDepth 100000 in
theorem mo_Law0_9 : mOk R_law 9 0 y_Main_init := ⟨Or.inl (gtb_of (List.mem_append_right _ (List.mem_of_getElem? (i := 22) (by decide +kernel))) rfl), mk_Main_init⟩
set_option maxRecDepth 100000 in
theorem mk_Mod_init : Cond.code y_Mod_init.1 y_Mod_init.2.1 y_Mod_init.2.2.1 y_Mod_init.2.2.2.1 ∈ gtb ∧ Cond.initialized y_Mod_init.1.cls ∈ gtb ∧ y_Mod_init.1.cls ≠ "java/lang/invoke/MethodHandle" ∧ y_Mod_init.1.cls ≠ "java/lang/invoke/VarHandle" ∧ (parseMethodDescriptor y_Mod_init.1.desc).map (fun d => d.parameters.length) = some 0 := ⟨(gtb_of (List.mem_append_right _ (List.mem_of_getElem? (i := 1143) (by decide +kernel))) rfl), cz_Mod, cx_Mod.1, cx_Mod.2, by decide +kernel⟩
set_option maxRecDepth 100000 in
theorem mi_Mod_init : Cond.instanceMethod y_Mod_init.1 ∈ gtb := (gtb_of (List.mem_append_right _ (List.mem_of_getElem? (i := 1142) (by decide +kernel))) rfl)
set_option maxRecDepth 100000 in
theorem mo_Law0_12 : mOk R_law 12 0 y_Mod_init := ⟨Or.inl (gtb_of (List.mem_append_right _ (List.mem_of_getElem? (i := 1141) (by decide +kernel))) rfl), mk_Mod_init⟩
set_option maxRecDepth 100000 in
theorem mk_Main_feed : Cond.code y_Main_feed.1 y_Main_feed.2.1 y_Main_feed.2.2.1 y_Main_feed.2.2.2.1 ∈ gtb ∧ Cond.initialized y_Main_feed.1.cls ∈ gtb ∧ y_Main_feed.1.cls ≠ "java/lang/invoke/MethodHandle" ∧ y_Main_feed.1.cls ≠ "java/lang/invoke/VarHandle" ∧ (parseMethodDescriptor y_Main_feed.1.desc).map (fun d => d.parameters.length) = some 5 := ⟨(gtb_of (List.mem_append_right _ (List.mem_of_getElem? (i := 505) (by decide +kernel))) rfl), cz_Main, cx_Main.1, cx_Main.2, by decide +kernel⟩
set_option maxRecDepth 100000 in
theorem mi_Main_feed : Cond.instanceMethod y_Main_feed.1 ∈ gtb := (gtb_of (List.mem_append_right _ (List.mem_of_getElem? (i := 503) (by decide +kernel))) rfl)
set_option maxRecDepth 100000 in
theorem mv_Main_feed : Cond.selects y_Main_feed.1.cls y_Main_feed.1 y_Main_feed.1 ∈ gtb := (gtb_of (List.mem_append_right _ (List.mem_of_getElem? (i := 504) (by decide +kernel))) rfl)
set_option maxRecDepth 100000 in
theorem mo_Law0_13 : mOk R_law 13 5 y_Main_feed := ⟨Or.inl (gtb_of (List.mem_append_right _ (List.mem_of_getElem? (i := 502) (by decide +kernel))) rfl), mk_Main_feed⟩
set_option maxRecDepth 100000 in
theorem mk_Mod_feed : Cond.code y_Mod_feed.1 y_Mod_feed.2.1 y_Mod_feed.2.2.1 y_Mod_feed.2.2.2.1 ∈ gtb ∧ Cond.initialized y_Mod_feed.1.cls ∈ gtb ∧ y_Mod_feed.1.cls ≠ "java/lang/invoke/MethodHandle" ∧ y_Mod_feed.1.cls ≠ "java/lang/invoke/VarHandle" ∧ (parseMethodDescriptor y_Mod_feed.1.desc).map (fun d => d.parameters.length) = some 5 := ⟨(gtb_of (List.mem_append_right _ (List.mem_of_getElem? (i := 1380) (by decide +kernel))) rfl), cz_Mod, cx_Mod.1, cx_Mod.2, by decide +kernel⟩
set_option maxRecDepth 100000 in
theorem mi_Mod_feed : Cond.instanceMethod y_Mod_feed.1 ∈ gtb := (gtb_of (List.mem_append_right _ (List.mem_of_getElem? (i := 1378) (by decide +kernel))) rfl)
set_option maxRecDepth 100000 in
theorem mv_Mod_feed : Cond.selects y_Mod_feed.1.cls y_Mod_feed.1 y_Mod_feed.1 ∈ gtb := (gtb_of (List.mem_append_right _ (List.mem_of_getElem? (i := 1379) (by decide +kernel))) rfl)
set_option maxRecDepth 100000 in
theorem mo_Law0_17 : mOk R_law 17 5 y_Mod_feed := ⟨Or.inl (gtb_of (List.mem_append_right _ (List.mem_of_getElem? (i := 1377) (by decide +kernel))) rfl), mk_Mod_feed⟩
set_option maxRecDepth 100000 in
theorem mk_Main_back : Cond.code y_Main_back.1 y_Main_back.2.1 y_Main_back.2.2.1 y_Main_back.2.2.2.1 ∈ gtb ∧ Cond.initialized y_Main_back.1.cls ∈ gtb ∧ y_Main_back.1.cls ≠ "java/lang/invoke/MethodHandle" ∧ y_Main_back.1.cls ≠ "java/lang/invoke/VarHandle" ∧ (parseMethodDescriptor y_Main_back.1.desc).map (fun d => d.parameters.length) = some 1 := ⟨(gtb_of (List.mem_append_right _ (List.mem_of_getElem? (i := 516) (by decide +kernel))) rfl), cz_Main, cx_Main.1, cx_Main.2, by decide +kernel⟩
set_option maxRecDepth 100000 in
theorem mi_Main_back : Cond.instanceMethod y_Main_back.1 ∈ gtb := (gtb_of (List.mem_append_right _ (List.mem_of_getElem? (i := 514) (by decide +kernel))) rfl)
set_option maxRecDepth 100000 in
theorem mv_Main_back : Cond.selects y_Main_back.1.cls y_Main_back.1 y_Main_back.1 ∈ gtb := (gtb_of (List.mem_append_right _ (List.mem_of_getElem? (i := 515) (by decide +kernel))) rfl)
set_option maxRecDepth 100000 in
theorem mo_Law0_18 : mOk R_law 18 1 y_Main_back := ⟨Or.inl (gtb_of (List.mem_append_right _ (List.mem_of_getElem? (i := 513) (by decide +kernel))) rfl), mk_Main_back⟩
set_option maxRecDepth 100000 in
theorem mk_Mod_back : Cond.code y_Mod_back.1 y_Mod_back.2.1 y_Mod_back.2.2.1 y_Mod_back.2.2.2.1 ∈ gtb ∧ Cond.initialized y_Mod_back.1.cls ∈ gtb ∧ y_Mod_back.1.cls ≠ "java/lang/invoke/MethodHandle" ∧ y_Mod_back.1.cls ≠ "java/lang/invoke/VarHandle" ∧ (parseMethodDescriptor y_Mod_back.1.desc).map (fun d => d.parameters.length) = some 1 := ⟨(gtb_of (List.mem_append_right _ (List.mem_of_getElem? (i := 1388) (by decide +kernel))) rfl), cz_Mod, cx_Mod.1, cx_Mod.2, by decide +kernel⟩
set_option maxRecDepth 100000 in
theorem mi_Mod_back : Cond.instanceMethod y_Mod_back.1 ∈ gtb := (gtb_of (List.mem_append_right _ (List.mem_of_getElem? (i := 1386) (by decide +kernel))) rfl)
set_option maxRecDepth 100000 in
theorem mv_Mod_back : Cond.selects y_Mod_back.1.cls y_Mod_back.1 y_Mod_back.1 ∈ gtb := (gtb_of (List.mem_append_right _ (List.mem_of_getElem? (i := 1387) (by decide +kernel))) rfl)
set_option maxRecDepth 100000 in
theorem mo_Law0_22 : mOk R_law 22 1 y_Mod_back := ⟨Or.inl (gtb_of (List.mem_append_right _ (List.mem_of_getElem? (i := 1385) (by decide +kernel))) rfl), mk_Mod_back⟩
set_option maxRecDepth 100000 in
theorem mk_Main_read : Cond.code y_Main_read.1 y_Main_read.2.1 y_Main_read.2.2.1 y_Main_read.2.2.2.1 ∈ gtb ∧ Cond.initialized y_Main_read.1.cls ∈ gtb ∧ y_Main_read.1.cls ≠ "java/lang/invoke/MethodHandle" ∧ y_Main_read.1.cls ≠ "java/lang/invoke/VarHandle" ∧ (parseMethodDescriptor y_Main_read.1.desc).map (fun d => d.parameters.length) = some 0 := ⟨(gtb_of (List.mem_append_right _ (List.mem_of_getElem? (i := 520) (by decide +kernel))) rfl), cz_Main, cx_Main.1, cx_Main.2, by decide +kernel⟩
set_option maxRecDepth 100000 in
theorem mi_Main_read : Cond.instanceMethod y_Main_read.1 ∈ gtb := (gtb_of (List.mem_append_right _ (List.mem_of_getElem? (i := 518) (by decide +kernel))) rfl)
set_option maxRecDepth 100000 in
theorem mv_Main_read : Cond.selects y_Main_read.1.cls y_Main_read.1 y_Main_read.1 ∈ gtb := (gtb_of (List.mem_append_right _ (List.mem_of_getElem? (i := 519) (by decide +kernel))) rfl)
set_option maxRecDepth 100000 in
theorem mo_Law0_23 : mOk R_law 23 0 y_Main_read := ⟨Or.inl (gtb_of (List.mem_append_right _ (List.mem_of_getElem? (i := 517) (by decide +kernel))) rfl), mk_Main_read⟩
set_option maxRecDepth 100000 in
theorem mk_Mod_read : Cond.code y_Mod_read.1 y_Mod_read.2.1 y_Mod_read.2.2.1 y_Mod_read.2.2.2.1 ∈ gtb ∧ Cond.initialized y_Mod_read.1.cls ∈ gtb ∧ y_Mod_read.1.cls ≠ "java/lang/invoke/MethodHandle" ∧ y_Mod_read.1.cls ≠ "java/lang/invoke/VarHandle" ∧ (parseMethodDescriptor y_Mod_read.1.desc).map (fun d => d.parameters.length) = some 0 := ⟨(gtb_of (List.mem_append_right _ (List.mem_of_getElem? (i := 1392) (by decide +kernel))) rfl), cz_Mod, cx_Mod.1, cx_Mod.2, by decide +kernel⟩
set_option maxRecDepth 100000 in
theorem mi_Mod_read : Cond.instanceMethod y_Mod_read.1 ∈ gtb := (gtb_of (List.mem_append_right _ (List.mem_of_getElem? (i := 1390) (by decide +kernel))) rfl)
set_option maxRecDepth 100000 in
theorem mv_Mod_read : Cond.selects y_Mod_read.1.cls y_Mod_read.1 y_Mod_read.1 ∈ gtb := (gtb_of (List.mem_append_right _ (List.mem_of_getElem? (i := 1391) (by decide +kernel))) rfl)
set_option maxRecDepth 100000 in
theorem mo_Law0_27 : mOk R_law 27 0 y_Mod_read := ⟨Or.inl (gtb_of (List.mem_append_right _ (List.mem_of_getElem? (i := 1389) (by decide +kernel))) rfl), mk_Mod_read⟩
set_option maxRecDepth 100000 in
theorem mk_Main_place : Cond.code y_Main_place.1 y_Main_place.2.1 y_Main_place.2.2.1 y_Main_place.2.2.2.1 ∈ gtb ∧ Cond.initialized y_Main_place.1.cls ∈ gtb ∧ y_Main_place.1.cls ≠ "java/lang/invoke/MethodHandle" ∧ y_Main_place.1.cls ≠ "java/lang/invoke/VarHandle" ∧ (parseMethodDescriptor y_Main_place.1.desc).map (fun d => d.parameters.length) = some 0 := ⟨(gtb_of (List.mem_append_right _ (List.mem_of_getElem? (i := 723) (by decide +kernel))) rfl), cz_Main, cx_Main.1, cx_Main.2, by decide +kernel⟩
set_option maxRecDepth 100000 in
theorem mi_Main_place : Cond.instanceMethod y_Main_place.1 ∈ gtb := (gtb_of (List.mem_append_right _ (List.mem_of_getElem? (i := 721) (by decide +kernel))) rfl)
set_option maxRecDepth 100000 in
theorem mv_Main_place : Cond.selects y_Main_place.1.cls y_Main_place.1 y_Main_place.1 ∈ gtb := (gtb_of (List.mem_append_right _ (List.mem_of_getElem? (i := 722) (by decide +kernel))) rfl)
set_option maxRecDepth 100000 in
theorem mo_Law0_28 : mOk R_law 28 0 y_Main_place := ⟨Or.inl (gtb_of (List.mem_append_right _ (List.mem_of_getElem? (i := 720) (by decide +kernel))) rfl), mk_Main_place⟩
set_option maxRecDepth 100000 in
theorem mk_Mod_place : Cond.code y_Mod_place.1 y_Mod_place.2.1 y_Mod_place.2.2.1 y_Mod_place.2.2.2.1 ∈ gtb ∧ Cond.initialized y_Mod_place.1.cls ∈ gtb ∧ y_Mod_place.1.cls ≠ "java/lang/invoke/MethodHandle" ∧ y_Mod_place.1.cls ≠ "java/lang/invoke/VarHandle" ∧ (parseMethodDescriptor y_Mod_place.1.desc).map (fun d => d.parameters.length) = some 0 := ⟨(gtb_of (List.mem_append_right _ (List.mem_of_getElem? (i := 1494) (by decide +kernel))) rfl), cz_Mod, cx_Mod.1, cx_Mod.2, by decide +kernel⟩
set_option maxRecDepth 100000 in
theorem mi_Mod_place : Cond.instanceMethod y_Mod_place.1 ∈ gtb := (gtb_of (List.mem_append_right _ (List.mem_of_getElem? (i := 1492) (by decide +kernel))) rfl)
set_option maxRecDepth 100000 in
theorem mv_Mod_place : Cond.selects y_Mod_place.1.cls y_Mod_place.1 y_Mod_place.1 ∈ gtb := (gtb_of (List.mem_append_right _ (List.mem_of_getElem? (i := 1493) (by decide +kernel))) rfl)
set_option maxRecDepth 100000 in
theorem mo_Law0_31 : mOk R_law 31 0 y_Mod_place := ⟨Or.inl (gtb_of (List.mem_append_right _ (List.mem_of_getElem? (i := 1491) (by decide +kernel))) rfl), mk_Mod_place⟩
set_option maxRecDepth 100000 in
theorem mk_Main_food : Cond.code y_Main_food.1 y_Main_food.2.1 y_Main_food.2.2.1 y_Main_food.2.2.2.1 ∈ gtb ∧ Cond.initialized y_Main_food.1.cls ∈ gtb ∧ y_Main_food.1.cls ≠ "java/lang/invoke/MethodHandle" ∧ y_Main_food.1.cls ≠ "java/lang/invoke/VarHandle" ∧ (parseMethodDescriptor y_Main_food.1.desc).map (fun d => d.parameters.length) = some 2 := ⟨(gtb_of (List.mem_append_right _ (List.mem_of_getElem? (i := 727) (by decide +kernel))) rfl), cz_Main, cx_Main.1, cx_Main.2, by decide +kernel⟩
set_option maxRecDepth 100000 in
theorem mi_Main_food : Cond.instanceMethod y_Main_food.1 ∈ gtb := (gtb_of (List.mem_append_right _ (List.mem_of_getElem? (i := 725) (by decide +kernel))) rfl)
set_option maxRecDepth 100000 in
theorem mv_Main_food : Cond.selects y_Main_food.1.cls y_Main_food.1 y_Main_food.1 ∈ gtb := (gtb_of (List.mem_append_right _ (List.mem_of_getElem? (i := 726) (by decide +kernel))) rfl)
set_option maxRecDepth 100000 in
theorem mo_Law0_32 : mOk R_law 32 2 y_Main_food := ⟨Or.inl (gtb_of (List.mem_append_right _ (List.mem_of_getElem? (i := 724) (by decide +kernel))) rfl), mk_Main_food⟩
set_option maxRecDepth 100000 in
theorem mk_Mod_food : Cond.code y_Mod_food.1 y_Mod_food.2.1 y_Mod_food.2.2.1 y_Mod_food.2.2.2.1 ∈ gtb ∧ Cond.initialized y_Mod_food.1.cls ∈ gtb ∧ y_Mod_food.1.cls ≠ "java/lang/invoke/MethodHandle" ∧ y_Mod_food.1.cls ≠ "java/lang/invoke/VarHandle" ∧ (parseMethodDescriptor y_Mod_food.1.desc).map (fun d => d.parameters.length) = some 2 := ⟨(gtb_of (List.mem_append_right _ (List.mem_of_getElem? (i := 1498) (by decide +kernel))) rfl), cz_Mod, cx_Mod.1, cx_Mod.2, by decide +kernel⟩
set_option maxRecDepth 100000 in
theorem mi_Mod_food : Cond.instanceMethod y_Mod_food.1 ∈ gtb := (gtb_of (List.mem_append_right _ (List.mem_of_getElem? (i := 1496) (by decide +kernel))) rfl)
set_option maxRecDepth 100000 in
theorem mv_Mod_food : Cond.selects y_Mod_food.1.cls y_Mod_food.1 y_Mod_food.1 ∈ gtb := (gtb_of (List.mem_append_right _ (List.mem_of_getElem? (i := 1497) (by decide +kernel))) rfl)
set_option maxRecDepth 100000 in
theorem mo_Law0_36 : mOk R_law 36 2 y_Mod_food := ⟨Or.inl (gtb_of (List.mem_append_right _ (List.mem_of_getElem? (i := 1495) (by decide +kernel))) rfl), mk_Mod_food⟩
set_option maxRecDepth 100000 in
theorem mk_Main_dish : Cond.code y_Main_dish.1 y_Main_dish.2.1 y_Main_dish.2.2.1 y_Main_dish.2.2.2.1 ∈ gtb ∧ Cond.initialized y_Main_dish.1.cls ∈ gtb ∧ y_Main_dish.1.cls ≠ "java/lang/invoke/MethodHandle" ∧ y_Main_dish.1.cls ≠ "java/lang/invoke/VarHandle" ∧ (parseMethodDescriptor y_Main_dish.1.desc).map (fun d => d.parameters.length) = some 2 := ⟨(gtb_of (List.mem_append_right _ (List.mem_of_getElem? (i := 737) (by decide +kernel))) rfl), cz_Main, cx_Main.1, cx_Main.2, by decide +kernel⟩
set_option maxRecDepth 100000 in
theorem mi_Main_dish : Cond.instanceMethod y_Main_dish.1 ∈ gtb := (gtb_of (List.mem_append_right _ (List.mem_of_getElem? (i := 735) (by decide +kernel))) rfl)
set_option maxRecDepth 100000 in
theorem mv_Main_dish : Cond.selects y_Main_dish.1.cls y_Main_dish.1 y_Main_dish.1 ∈ gtb := (gtb_of (List.mem_append_right _ (List.mem_of_getElem? (i := 736) (by decide +kernel))) rfl)
set_option maxRecDepth 100000 in
theorem mo_Law0_37 : mOk R_law 37 2 y_Main_dish := ⟨Or.inl (gtb_of (List.mem_append_right _ (List.mem_of_getElem? (i := 734) (by decide +kernel))) rfl), mk_Main_dish⟩
set_option maxRecDepth 100000 in
theorem mk_Mod_dish : Cond.code y_Mod_dish.1 y_Mod_dish.2.1 y_Mod_dish.2.2.1 y_Mod_dish.2.2.2.1 ∈ gtb ∧ Cond.initialized y_Mod_dish.1.cls ∈ gtb ∧ y_Mod_dish.1.cls ≠ "java/lang/invoke/MethodHandle" ∧ y_Mod_dish.1.cls ≠ "java/lang/invoke/VarHandle" ∧ (parseMethodDescriptor y_Mod_dish.1.desc).map (fun d => d.parameters.length) = some 2 := ⟨(gtb_of (List.mem_append_right _ (List.mem_of_getElem? (i := 1509) (by decide +kernel))) rfl), cz_Mod, cx_Mod.1, cx_Mod.2, by decide +kernel⟩
set_option maxRecDepth 100000 in
theorem mi_Mod_dish : Cond.instanceMethod y_Mod_dish.1 ∈ gtb := (gtb_of (List.mem_append_right _ (List.mem_of_getElem? (i := 1507) (by decide +kernel))) rfl)
set_option maxRecDepth 100000 in
theorem mv_Mod_dish : Cond.selects y_Mod_dish.1.cls y_Mod_dish.1 y_Mod_dish.1 ∈ gtb := (gtb_of (List.mem_append_right _ (List.mem_of_getElem? (i := 1508) (by decide +kernel))) rfl)
set_option maxRecDepth 100000 in
theorem mo_Law0_40 : mOk R_law 40 2 y_Mod_dish := ⟨Or.inl (gtb_of (List.mem_append_right _ (List.mem_of_getElem? (i := 1506) (by decide +kernel))) rfl), mk_Mod_dish⟩
set_option maxRecDepth 100000 in
theorem mk_Main_amount : Cond.code y_Main_amount.1 y_Main_amount.2.1 y_Main_amount.2.2.1 y_Main_amount.2.2.2.1 ∈ gtb ∧ Cond.initialized y_Main_amount.1.cls ∈ gtb ∧ y_Main_amount.1.cls ≠ "java/lang/invoke/MethodHandle" ∧ y_Main_amount.1.cls ≠ "java/lang/invoke/VarHandle" ∧ (parseMethodDescriptor y_Main_amount.1.desc).map (fun d => d.parameters.length) = some 2 := ⟨(gtb_of (List.mem_append_right _ (List.mem_of_getElem? (i := 789) (by decide +kernel))) rfl), cz_Main, cx_Main.1, cx_Main.2, by decide +kernel⟩
set_option maxRecDepth 100000 in
theorem mi_Main_amount : Cond.instanceMethod y_Main_amount.1 ∈ gtb := (gtb_of (List.mem_append_right _ (List.mem_of_getElem? (i := 787) (by decide +kernel))) rfl)
set_option maxRecDepth 100000 in
theorem mv_Main_amount : Cond.selects y_Main_amount.1.cls y_Main_amount.1 y_Main_amount.1 ∈ gtb := (gtb_of (List.mem_append_right _ (List.mem_of_getElem? (i := 788) (by decide +kernel))) rfl)
set_option maxRecDepth 100000 in
theorem mo_Law0_41 : mOk R_law 41 2 y_Main_amount := ⟨Or.inl (gtb_of (List.mem_append_right _ (List.mem_of_getElem? (i := 786) (by decide +kernel))) rfl), mk_Main_amount⟩
set_option maxRecDepth 100000 in
theorem mk_Mod_amount : Cond.code y_Mod_amount.1 y_Mod_amount.2.1 y_Mod_amount.2.2.1 y_Mod_amount.2.2.2.1 ∈ gtb ∧ Cond.initialized y_Mod_amount.1.cls ∈ gtb ∧ y_Mod_amount.1.cls ≠ "java/lang/invoke/MethodHandle" ∧ y_Mod_amount.1.cls ≠ "java/lang/invoke/VarHandle" ∧ (parseMethodDescriptor y_Mod_amount.1.desc).map (fun d => d.parameters.length) = some 2 := ⟨(gtb_of (List.mem_append_right _ (List.mem_of_getElem? (i := 1556) (by decide +kernel))) rfl), cz_Mod, cx_Mod.1, cx_Mod.2, by decide +kernel⟩
set_option maxRecDepth 100000 in
theorem mi_Mod_amount : Cond.instanceMethod y_Mod_amount.1 ∈ gtb := (gtb_of (List.mem_append_right _ (List.mem_of_getElem? (i := 1554) (by decide +kernel))) rfl)
set_option maxRecDepth 100000 in
theorem mv_Mod_amount : Cond.selects y_Mod_amount.1.cls y_Mod_amount.1 y_Mod_amount.1 ∈ gtb := (gtb_of (List.mem_append_right _ (List.mem_of_getElem? (i := 1555) (by decide +kernel))) rfl)
set_option maxRecDepth 100000 in
theorem mo_Law0_44 : mOk R_law 44 2 y_Mod_amount := ⟨Or.inl (gtb_of (List.mem_append_right _ (List.mem_of_getElem? (i := 1553) (by decide +kernel))) rfl), mk_Mod_amount⟩
set_option maxRecDepth 100000 in
theorem mk_Main_guest : Cond.code y_Main_guest.1 y_Main_guest.2.1 y_Main_guest.2.2.1 y_Main_guest.2.2.2.1 ∈ gtb ∧ Cond.initialized y_Main_guest.1.cls ∈ gtb ∧ y_Main_guest.1.cls ≠ "java/lang/invoke/MethodHandle" ∧ y_Main_guest.1.cls ≠ "java/lang/invoke/VarHandle" ∧ (parseMethodDescriptor y_Main_guest.1.desc).map (fun d => d.parameters.length) = some 2 := ⟨(gtb_of (List.mem_append_right _ (List.mem_of_getElem? (i := 794) (by decide +kernel))) rfl), cz_Main, cx_Main.1, cx_Main.2, by decide +kernel⟩
set_option maxRecDepth 100000 in
theorem mi_Main_guest : Cond.instanceMethod y_Main_guest.1 ∈ gtb := (gtb_of (List.mem_append_right _ (List.mem_of_getElem? (i := 792) (by decide +kernel))) rfl)
set_option maxRecDepth 100000 in
theorem mv_Main_guest : Cond.selects y_Main_guest.1.cls y_Main_guest.1 y_Main_guest.1 ∈ gtb := (gtb_of (List.mem_append_right _ (List.mem_of_getElem? (i := 793) (by decide +kernel))) rfl)
set_option maxRecDepth 100000 in
theorem mo_Law0_45 : mOk R_law 45 2 y_Main_guest := ⟨Or.inl (gtb_of (List.mem_append_right _ (List.mem_of_getElem? (i := 791) (by decide +kernel))) rfl), mk_Main_guest⟩
set_option maxRecDepth 100000 in
theorem mk_Mod_guest : Cond.code y_Mod_guest.1 y_Mod_guest.2.1 y_Mod_guest.2.2.1 y_Mod_guest.2.2.2.1 ∈ gtb ∧ Cond.initialized y_Mod_guest.1.cls ∈ gtb ∧ y_Mod_guest.1.cls ≠ "java/lang/invoke/MethodHandle" ∧ y_Mod_guest.1.cls ≠ "java/lang/invoke/VarHandle" ∧ (parseMethodDescriptor y_Mod_guest.1.desc).map (fun d => d.parameters.length) = some 2 := ⟨(gtb_of (List.mem_append_right _ (List.mem_of_getElem? (i := 1560) (by decide +kernel))) rfl), cz_Mod, cx_Mod.1, cx_Mod.2, by decide +kernel⟩
set_option maxRecDepth 100000 in
theorem mi_Mod_guest : Cond.instanceMethod y_Mod_guest.1 ∈ gtb := (gtb_of (List.mem_append_right _ (List.mem_of_getElem? (i := 1558) (by decide +kernel))) rfl)
set_option maxRecDepth 100000 in
theorem mv_Mod_guest : Cond.selects y_Mod_guest.1.cls y_Mod_guest.1 y_Mod_guest.1 ∈ gtb := (gtb_of (List.mem_append_right _ (List.mem_of_getElem? (i := 1559) (by decide +kernel))) rfl)
set_option maxRecDepth 100000 in
theorem mo_Law0_48 : mOk R_law 48 2 y_Mod_guest := ⟨Or.inl (gtb_of (List.mem_append_right _ (List.mem_of_getElem? (i := 1557) (by decide +kernel))) rfl), mk_Mod_guest⟩
set_option maxRecDepth 100000 in
theorem mk_Main_deed : Cond.code y_Main_deed.1 y_Main_deed.2.1 y_Main_deed.2.2.1 y_Main_deed.2.2.2.1 ∈ gtb ∧ Cond.initialized y_Main_deed.1.cls ∈ gtb ∧ y_Main_deed.1.cls ≠ "java/lang/invoke/MethodHandle" ∧ y_Main_deed.1.cls ≠ "java/lang/invoke/VarHandle" ∧ (parseMethodDescriptor y_Main_deed.1.desc).map (fun d => d.parameters.length) = some 2 := ⟨(gtb_of (List.mem_append_right _ (List.mem_of_getElem? (i := 816) (by decide +kernel))) rfl), cz_Main, cx_Main.1, cx_Main.2, by decide +kernel⟩
set_option maxRecDepth 100000 in
theorem mi_Main_deed : Cond.instanceMethod y_Main_deed.1 ∈ gtb := (gtb_of (List.mem_append_right _ (List.mem_of_getElem? (i := 814) (by decide +kernel))) rfl)
set_option maxRecDepth 100000 in
theorem mv_Main_deed : Cond.selects y_Main_deed.1.cls y_Main_deed.1 y_Main_deed.1 ∈ gtb := (gtb_of (List.mem_append_right _ (List.mem_of_getElem? (i := 815) (by decide +kernel))) rfl)
set_option maxRecDepth 100000 in
theorem mo_Law0_49 : mOk R_law 49 2 y_Main_deed := ⟨Or.inl (gtb_of (List.mem_append_right _ (List.mem_of_getElem? (i := 813) (by decide +kernel))) rfl), mk_Main_deed⟩
set_option maxRecDepth 100000 in
theorem mk_Mod_deed : Cond.code y_Mod_deed.1 y_Mod_deed.2.1 y_Mod_deed.2.2.1 y_Mod_deed.2.2.2.1 ∈ gtb ∧ Cond.initialized y_Mod_deed.1.cls ∈ gtb ∧ y_Mod_deed.1.cls ≠ "java/lang/invoke/MethodHandle" ∧ y_Mod_deed.1.cls ≠ "java/lang/invoke/VarHandle" ∧ (parseMethodDescriptor y_Mod_deed.1.desc).map (fun d => d.parameters.length) = some 2 := ⟨(gtb_of (List.mem_append_right _ (List.mem_of_getElem? (i := 1576) (by decide +kernel))) rfl), cz_Mod, cx_Mod.1, cx_Mod.2, by decide +kernel⟩
set_option maxRecDepth 100000 in
theorem mi_Mod_deed : Cond.instanceMethod y_Mod_deed.1 ∈ gtb := (gtb_of (List.mem_append_right _ (List.mem_of_getElem? (i := 1574) (by decide +kernel))) rfl)
set_option maxRecDepth 100000 in
theorem mv_Mod_deed : Cond.selects y_Mod_deed.1.cls y_Mod_deed.1 y_Mod_deed.1 ∈ gtb := (gtb_of (List.mem_append_right _ (List.mem_of_getElem? (i := 1575) (by decide +kernel))) rfl)
set_option maxRecDepth 100000 in
theorem mo_Law0_52 : mOk R_law 52 2 y_Mod_deed := ⟨Or.inl (gtb_of (List.mem_append_right _ (List.mem_of_getElem? (i := 1573) (by decide +kernel))) rfl), mk_Mod_deed⟩
set_option maxRecDepth 100000 in
theorem mk_Main_cook : Cond.code y_Main_cook.1 y_Main_cook.2.1 y_Main_cook.2.2.1 y_Main_cook.2.2.2.1 ∈ gtb ∧ Cond.initialized y_Main_cook.1.cls ∈ gtb ∧ y_Main_cook.1.cls ≠ "java/lang/invoke/MethodHandle" ∧ y_Main_cook.1.cls ≠ "java/lang/invoke/VarHandle" ∧ (parseMethodDescriptor y_Main_cook.1.desc).map (fun d => d.parameters.length) = some 1 := ⟨(gtb_of (List.mem_append_right _ (List.mem_of_getElem? (i := 836) (by decide +kernel))) rfl), cz_Main, cx_Main.1, cx_Main.2, by decide +kernel⟩
set_option maxRecDepth 100000 in
theorem mi_Main_cook : Cond.instanceMethod y_Main_cook.1 ∈ gtb := (gtb_of (List.mem_append_right _ (List.mem_of_getElem? (i := 834) (by decide +kernel))) rfl)
set_option maxRecDepth 100000 in
theorem mv_Main_cook : Cond.selects y_Main_cook.1.cls y_Main_cook.1 y_Main_cook.1 ∈ gtb := (gtb_of (List.mem_append_right _ (List.mem_of_getElem? (i := 835) (by decide +kernel))) rfl)
set_option maxRecDepth 100000 in
theorem mo_Law0_53 : mOk R_law 53 1 y_Main_cook := ⟨Or.inl (gtb_of (List.mem_append_right _ (List.mem_of_getElem? (i := 833) (by decide +kernel))) rfl), mk_Main_cook⟩
set_option maxRecDepth 100000 in
theorem mk_Mod_cook : Cond.code y_Mod_cook.1 y_Mod_cook.2.1 y_Mod_cook.2.2.1 y_Mod_cook.2.2.2.1 ∈ gtb ∧ Cond.initialized y_Mod_cook.1.cls ∈ gtb ∧ y_Mod_cook.1.cls ≠ "java/lang/invoke/MethodHandle" ∧ y_Mod_cook.1.cls ≠ "java/lang/invoke/VarHandle" ∧ (parseMethodDescriptor y_Mod_cook.1.desc).map (fun d => d.parameters.length) = some 1 := ⟨(gtb_of (List.mem_append_right _ (List.mem_of_getElem? (i := 1588) (by decide +kernel))) rfl), cz_Mod, cx_Mod.1, cx_Mod.2, by decide +kernel⟩
set_option maxRecDepth 100000 in
theorem mi_Mod_cook : Cond.instanceMethod y_Mod_cook.1 ∈ gtb := (gtb_of (List.mem_append_right _ (List.mem_of_getElem? (i := 1586) (by decide +kernel))) rfl)
set_option maxRecDepth 100000 in
theorem mv_Mod_cook : Cond.selects y_Mod_cook.1.cls y_Mod_cook.1 y_Mod_cook.1 ∈ gtb := (gtb_of (List.mem_append_right _ (List.mem_of_getElem? (i := 1587) (by decide +kernel))) rfl)
set_option maxRecDepth 100000 in
theorem mo_Law0_56 : mOk R_law 56 1 y_Mod_cook := ⟨Or.inl (gtb_of (List.mem_append_right _ (List.mem_of_getElem? (i := 1585) (by decide +kernel))) rfl), mk_Mod_cook⟩
set_option maxRecDepth 100000 in
theorem mk_Main_eat : Cond.code y_Main_eat.1 y_Main_eat.2.1 y_Main_eat.2.2.1 y_Main_eat.2.2.2.1 ∈ gtb ∧ Cond.initialized y_Main_eat.1.cls ∈ gtb ∧ y_Main_eat.1.cls ≠ "java/lang/invoke/MethodHandle" ∧ y_Main_eat.1.cls ≠ "java/lang/invoke/VarHandle" ∧ (parseMethodDescriptor y_Main_eat.1.desc).map (fun d => d.parameters.length) = some 1 := ⟨(gtb_of (List.mem_append_right _ (List.mem_of_getElem? (i := 878) (by decide +kernel))) rfl), cz_Main, cx_Main.1, cx_Main.2, by decide +kernel⟩
set_option maxRecDepth 100000 in
theorem mi_Main_eat : Cond.instanceMethod y_Main_eat.1 ∈ gtb := (gtb_of (List.mem_append_right _ (List.mem_of_getElem? (i := 876) (by decide +kernel))) rfl)
set_option maxRecDepth 100000 in
theorem mv_Main_eat : Cond.selects y_Main_eat.1.cls y_Main_eat.1 y_Main_eat.1 ∈ gtb := (gtb_of (List.mem_append_right _ (List.mem_of_getElem? (i := 877) (by decide +kernel))) rfl)
set_option maxRecDepth 100000 in
theorem mo_Law0_57 : mOk R_law 57 1 y_Main_eat := ⟨Or.inl (gtb_of (List.mem_append_right _ (List.mem_of_getElem? (i := 875) (by decide +kernel))) rfl), mk_Main_eat⟩
set_option maxRecDepth 100000 in
theorem mk_Mod_eat : Cond.code y_Mod_eat.1 y_Mod_eat.2.1 y_Mod_eat.2.2.1 y_Mod_eat.2.2.2.1 ∈ gtb ∧ Cond.initialized y_Mod_eat.1.cls ∈ gtb ∧ y_Mod_eat.1.cls ≠ "java/lang/invoke/MethodHandle" ∧ y_Mod_eat.1.cls ≠ "java/lang/invoke/VarHandle" ∧ (parseMethodDescriptor y_Mod_eat.1.desc).map (fun d => d.parameters.length) = some 1 := ⟨(gtb_of (List.mem_append_right _ (List.mem_of_getElem? (i := 1612) (by decide +kernel))) rfl), cz_Mod, cx_Mod.1, cx_Mod.2, by decide +kernel⟩
set_option maxRecDepth 100000 in
theorem mi_Mod_eat : Cond.instanceMethod y_Mod_eat.1 ∈ gtb := (gtb_of (List.mem_append_right _ (List.mem_of_getElem? (i := 1610) (by decide +kernel))) rfl)
set_option maxRecDepth 100000 in
theorem mv_Mod_eat : Cond.selects y_Mod_eat.1.cls y_Mod_eat.1 y_Mod_eat.1 ∈ gtb := (gtb_of (List.mem_append_right _ (List.mem_of_getElem? (i := 1611) (by decide +kernel))) rfl)
set_option maxRecDepth 100000 in
theorem mo_Law0_60 : mOk R_law 60 1 y_Mod_eat := ⟨Or.inl (gtb_of (List.mem_append_right _ (List.mem_of_getElem? (i := 1609) (by decide +kernel))) rfl), mk_Mod_eat⟩
set_option maxRecDepth 100000 in
theorem mk_Main_days : Cond.code y_Main_days.1 y_Main_days.2.1 y_Main_days.2.2.1 y_Main_days.2.2.2.1 ∈ gtb ∧ Cond.initialized y_Main_days.1.cls ∈ gtb ∧ y_Main_days.1.cls ≠ "java/lang/invoke/MethodHandle" ∧ y_Main_days.1.cls ≠ "java/lang/invoke/VarHandle" ∧ (parseMethodDescriptor y_Main_days.1.desc).map (fun d => d.parameters.length) = some 1 := ⟨(gtb_of (List.mem_append_right _ (List.mem_of_getElem? (i := 886) (by decide +kernel))) rfl), cz_Main, cx_Main.1, cx_Main.2, by decide +kernel⟩
set_option maxRecDepth 100000 in
theorem mi_Main_days : Cond.instanceMethod y_Main_days.1 ∈ gtb := (gtb_of (List.mem_append_right _ (List.mem_of_getElem? (i := 884) (by decide +kernel))) rfl)
set_option maxRecDepth 100000 in
theorem mv_Main_days : Cond.selects y_Main_days.1.cls y_Main_days.1 y_Main_days.1 ∈ gtb := (gtb_of (List.mem_append_right _ (List.mem_of_getElem? (i := 885) (by decide +kernel))) rfl)
set_option maxRecDepth 100000 in
theorem mo_Law0_61 : mOk R_law 61 1 y_Main_days := ⟨Or.inl (gtb_of (List.mem_append_right _ (List.mem_of_getElem? (i := 883) (by decide +kernel))) rfl), mk_Main_days⟩
set_option maxRecDepth 100000 in
theorem mk_Mod_days : Cond.code y_Mod_days.1 y_Mod_days.2.1 y_Mod_days.2.2.1 y_Mod_days.2.2.2.1 ∈ gtb ∧ Cond.initialized y_Mod_days.1.cls ∈ gtb ∧ y_Mod_days.1.cls ≠ "java/lang/invoke/MethodHandle" ∧ y_Mod_days.1.cls ≠ "java/lang/invoke/VarHandle" ∧ (parseMethodDescriptor y_Mod_days.1.desc).map (fun d => d.parameters.length) = some 1 := ⟨(gtb_of (List.mem_append_right _ (List.mem_of_getElem? (i := 1620) (by decide +kernel))) rfl), cz_Mod, cx_Mod.1, cx_Mod.2, by decide +kernel⟩
set_option maxRecDepth 100000 in
theorem mi_Mod_days : Cond.instanceMethod y_Mod_days.1 ∈ gtb := (gtb_of (List.mem_append_right _ (List.mem_of_getElem? (i := 1618) (by decide +kernel))) rfl)
set_option maxRecDepth 100000 in
theorem mv_Mod_days : Cond.selects y_Mod_days.1.cls y_Mod_days.1 y_Mod_days.1 ∈ gtb := (gtb_of (List.mem_append_right _ (List.mem_of_getElem? (i := 1619) (by decide +kernel))) rfl)
set_option maxRecDepth 100000 in
theorem mo_Law0_64 : mOk R_law 64 1 y_Mod_days := ⟨Or.inl (gtb_of (List.mem_append_right _ (List.mem_of_getElem? (i := 1617) (by decide +kernel))) rfl), mk_Mod_days⟩
set_option maxRecDepth 100000 in
theorem mk_Main_undo : Cond.code y_Main_undo.1 y_Main_undo.2.1 y_Main_undo.2.2.1 y_Main_undo.2.2.2.1 ∈ gtb ∧ Cond.initialized y_Main_undo.1.cls ∈ gtb ∧ y_Main_undo.1.cls ≠ "java/lang/invoke/MethodHandle" ∧ y_Main_undo.1.cls ≠ "java/lang/invoke/VarHandle" ∧ (parseMethodDescriptor y_Main_undo.1.desc).map (fun d => d.parameters.length) = some 0 := ⟨(gtb_of (List.mem_append_right _ (List.mem_of_getElem? (i := 899) (by decide +kernel))) rfl), cz_Main, cx_Main.1, cx_Main.2, by decide +kernel⟩
set_option maxRecDepth 100000 in
theorem mi_Main_undo : Cond.instanceMethod y_Main_undo.1 ∈ gtb := (gtb_of (List.mem_append_right _ (List.mem_of_getElem? (i := 897) (by decide +kernel))) rfl)
set_option maxRecDepth 100000 in
theorem mv_Main_undo : Cond.selects y_Main_undo.1.cls y_Main_undo.1 y_Main_undo.1 ∈ gtb := (gtb_of (List.mem_append_right _ (List.mem_of_getElem? (i := 898) (by decide +kernel))) rfl)
set_option maxRecDepth 100000 in
theorem mo_Law0_65 : mOk R_law 65 0 y_Main_undo := ⟨Or.inl (gtb_of (List.mem_append_right _ (List.mem_of_getElem? (i := 896) (by decide +kernel))) rfl), mk_Main_undo⟩
set_option maxRecDepth 100000 in
theorem mk_Mod_undo : Cond.code y_Mod_undo.1 y_Mod_undo.2.1 y_Mod_undo.2.2.1 y_Mod_undo.2.2.2.1 ∈ gtb ∧ Cond.initialized y_Mod_undo.1.cls ∈ gtb ∧ y_Mod_undo.1.cls ≠ "java/lang/invoke/MethodHandle" ∧ y_Mod_undo.1.cls ≠ "java/lang/invoke/VarHandle" ∧ (parseMethodDescriptor y_Mod_undo.1.desc).map (fun d => d.parameters.length) = some 0 := ⟨(gtb_of (List.mem_append_right _ (List.mem_of_getElem? (i := 1632) (by decide +kernel))) rfl), cz_Mod, cx_Mod.1, cx_Mod.2, by decide +kernel⟩
set_option maxRecDepth 100000 in
theorem mi_Mod_undo : Cond.instanceMethod y_Mod_undo.1 ∈ gtb := (gtb_of (List.mem_append_right _ (List.mem_of_getElem? (i := 1630) (by decide +kernel))) rfl)
set_option maxRecDepth 100000 in
theorem mv_Mod_undo : Cond.selects y_Mod_undo.1.cls y_Mod_undo.1 y_Mod_undo.1 ∈ gtb := (gtb_of (List.mem_append_right _ (List.mem_of_getElem? (i := 1631) (by decide +kernel))) rfl)
set_option maxRecDepth 100000 in
theorem mo_Law0_69 : mOk R_law 69 0 y_Mod_undo := ⟨Or.inl (gtb_of (List.mem_append_right _ (List.mem_of_getElem? (i := 1629) (by decide +kernel))) rfl), mk_Mod_undo⟩
set_option maxRecDepth 100000 in
theorem mk_Main_pot : Cond.code y_Main_pot.1 y_Main_pot.2.1 y_Main_pot.2.2.1 y_Main_pot.2.2.2.1 ∈ gtb ∧ Cond.initialized y_Main_pot.1.cls ∈ gtb ∧ y_Main_pot.1.cls ≠ "java/lang/invoke/MethodHandle" ∧ y_Main_pot.1.cls ≠ "java/lang/invoke/VarHandle" ∧ (parseMethodDescriptor y_Main_pot.1.desc).map (fun d => d.parameters.length) = some 4 := ⟨(gtb_of (List.mem_append_right _ (List.mem_of_getElem? (i := 907) (by decide +kernel))) rfl), cz_Main, cx_Main.1, cx_Main.2, by decide +kernel⟩
set_option maxRecDepth 100000 in
theorem mi_Main_pot : Cond.instanceMethod y_Main_pot.1 ∈ gtb := (gtb_of (List.mem_append_right _ (List.mem_of_getElem? (i := 905) (by decide +kernel))) rfl)
set_option maxRecDepth 100000 in
theorem mv_Main_pot : Cond.selects y_Main_pot.1.cls y_Main_pot.1 y_Main_pot.1 ∈ gtb := (gtb_of (List.mem_append_right _ (List.mem_of_getElem? (i := 906) (by decide +kernel))) rfl)
set_option maxRecDepth 100000 in
theorem mo_Law0_70 : mOk R_law 70 4 y_Main_pot := ⟨Or.inl (gtb_of (List.mem_append_right _ (List.mem_of_getElem? (i := 904) (by decide +kernel))) rfl), mk_Main_pot⟩
set_option maxRecDepth 100000 in
theorem mk_Mod_pot : Cond.code y_Mod_pot.1 y_Mod_pot.2.1 y_Mod_pot.2.2.1 y_Mod_pot.2.2.2.1 ∈ gtb ∧ Cond.initialized y_Mod_pot.1.cls ∈ gtb ∧ y_Mod_pot.1.cls ≠ "java/lang/invoke/MethodHandle" ∧ y_Mod_pot.1.cls ≠ "java/lang/invoke/VarHandle" ∧ (parseMethodDescriptor y_Mod_pot.1.desc).map (fun d => d.parameters.length) = some 4 := ⟨(gtb_of (List.mem_append_right _ (List.mem_of_getElem? (i := 1636) (by decide +kernel))) rfl), cz_Mod, cx_Mod.1, cx_Mod.2, by decide +kernel⟩
set_option maxRecDepth 100000 in
theorem mi_Mod_pot : Cond.instanceMethod y_Mod_pot.1 ∈ gtb := (gtb_of (List.mem_append_right _ (List.mem_of_getElem? (i := 1634) (by decide +kernel))) rfl)
set_option maxRecDepth 100000 in
theorem mv_Mod_pot : Cond.selects y_Mod_pot.1.cls y_Mod_pot.1 y_Mod_pot.1 ∈ gtb := (gtb_of (List.mem_append_right _ (List.mem_of_getElem? (i := 1635) (by decide +kernel))) rfl)
set_option maxRecDepth 100000 in
theorem mo_Law0_74 : mOk R_law 74 4 y_Mod_pot := ⟨Or.inl (gtb_of (List.mem_append_right _ (List.mem_of_getElem? (i := 1633) (by decide +kernel))) rfl), mk_Mod_pot⟩
set_option maxRecDepth 100000 in
theorem mk_Main_pinch : Cond.code y_Main_pinch.1 y_Main_pinch.2.1 y_Main_pinch.2.2.1 y_Main_pinch.2.2.2.1 ∈ gtb ∧ Cond.initialized y_Main_pinch.1.cls ∈ gtb ∧ y_Main_pinch.1.cls ≠ "java/lang/invoke/MethodHandle" ∧ y_Main_pinch.1.cls ≠ "java/lang/invoke/VarHandle" ∧ (parseMethodDescriptor y_Main_pinch.1.desc).map (fun d => d.parameters.length) = some 2 := ⟨(gtb_of (List.mem_append_right _ (List.mem_of_getElem? (i := 946) (by decide +kernel))) rfl), cz_Main, cx_Main.1, cx_Main.2, by decide +kernel⟩
set_option maxRecDepth 100000 in
theorem mi_Main_pinch : Cond.instanceMethod y_Main_pinch.1 ∈ gtb := (gtb_of (List.mem_append_right _ (List.mem_of_getElem? (i := 944) (by decide +kernel))) rfl)
set_option maxRecDepth 100000 in
theorem mv_Main_pinch : Cond.selects y_Main_pinch.1.cls y_Main_pinch.1 y_Main_pinch.1 ∈ gtb := (gtb_of (List.mem_append_right _ (List.mem_of_getElem? (i := 945) (by decide +kernel))) rfl)
set_option maxRecDepth 100000 in
theorem mo_Law0_75 : mOk R_law 75 2 y_Main_pinch := ⟨Or.inl (gtb_of (List.mem_append_right _ (List.mem_of_getElem? (i := 943) (by decide +kernel))) rfl), mk_Main_pinch⟩
set_option maxRecDepth 100000 in
theorem mk_Mod_pinch : Cond.code y_Mod_pinch.1 y_Mod_pinch.2.1 y_Mod_pinch.2.2.1 y_Mod_pinch.2.2.2.1 ∈ gtb ∧ Cond.initialized y_Mod_pinch.1.cls ∈ gtb ∧ y_Mod_pinch.1.cls ≠ "java/lang/invoke/MethodHandle" ∧ y_Mod_pinch.1.cls ≠ "java/lang/invoke/VarHandle" ∧ (parseMethodDescriptor y_Mod_pinch.1.desc).map (fun d => d.parameters.length) = some 2 := ⟨(gtb_of (List.mem_append_right _ (List.mem_of_getElem? (i := 1655) (by decide +kernel))) rfl), cz_Mod, cx_Mod.1, cx_Mod.2, by decide +kernel⟩
set_option maxRecDepth 100000 in
theorem mi_Mod_pinch : Cond.instanceMethod y_Mod_pinch.1 ∈ gtb := (gtb_of (List.mem_append_right _ (List.mem_of_getElem? (i := 1653) (by decide +kernel))) rfl)
set_option maxRecDepth 100000 in
theorem mv_Mod_pinch : Cond.selects y_Mod_pinch.1.cls y_Mod_pinch.1 y_Mod_pinch.1 ∈ gtb := (gtb_of (List.mem_append_right _ (List.mem_of_getElem? (i := 1654) (by decide +kernel))) rfl)
set_option maxRecDepth 100000 in
theorem mo_Law0_78 : mOk R_law 78 2 y_Mod_pinch := ⟨Or.inl (gtb_of (List.mem_append_right _ (List.mem_of_getElem? (i := 1652) (by decide +kernel))) rfl), mk_Mod_pinch⟩
set_option maxRecDepth 100000 in
theorem mk_Main_freest : Cond.code y_Main_freest.1 y_Main_freest.2.1 y_Main_freest.2.2.1 y_Main_freest.2.2.2.1 ∈ gtb ∧ Cond.initialized y_Main_freest.1.cls ∈ gtb ∧ y_Main_freest.1.cls ≠ "java/lang/invoke/MethodHandle" ∧ y_Main_freest.1.cls ≠ "java/lang/invoke/VarHandle" ∧ (parseMethodDescriptor y_Main_freest.1.desc).map (fun d => d.parameters.length) = some 2 := ⟨(gtb_of (List.mem_append_right _ (List.mem_of_getElem? (i := 957) (by decide +kernel))) rfl), cz_Main, cx_Main.1, cx_Main.2, by decide +kernel⟩
set_option maxRecDepth 100000 in
theorem mi_Main_freest : Cond.instanceMethod y_Main_freest.1 ∈ gtb := (gtb_of (List.mem_append_right _ (List.mem_of_getElem? (i := 955) (by decide +kernel))) rfl)
set_option maxRecDepth 100000 in
theorem mv_Main_freest : Cond.selects y_Main_freest.1.cls y_Main_freest.1 y_Main_freest.1 ∈ gtb := (gtb_of (List.mem_append_right _ (List.mem_of_getElem? (i := 956) (by decide +kernel))) rfl)
set_option maxRecDepth 100000 in
theorem mo_Law0_79 : mOk R_law 79 2 y_Main_freest := ⟨Or.inl (gtb_of (List.mem_append_right _ (List.mem_of_getElem? (i := 954) (by decide +kernel))) rfl), mk_Main_freest⟩
set_option maxRecDepth 100000 in
theorem mk_Mod_freest : Cond.code y_Mod_freest.1 y_Mod_freest.2.1 y_Mod_freest.2.2.1 y_Mod_freest.2.2.2.1 ∈ gtb ∧ Cond.initialized y_Mod_freest.1.cls ∈ gtb ∧ y_Mod_freest.1.cls ≠ "java/lang/invoke/MethodHandle" ∧ y_Mod_freest.1.cls ≠ "java/lang/invoke/VarHandle" ∧ (parseMethodDescriptor y_Mod_freest.1.desc).map (fun d => d.parameters.length) = some 2 := ⟨(gtb_of (List.mem_append_right _ (List.mem_of_getElem? (i := 1662) (by decide +kernel))) rfl), cz_Mod, cx_Mod.1, cx_Mod.2, by decide +kernel⟩
set_option maxRecDepth 100000 in
theorem mi_Mod_freest : Cond.instanceMethod y_Mod_freest.1 ∈ gtb := (gtb_of (List.mem_append_right _ (List.mem_of_getElem? (i := 1660) (by decide +kernel))) rfl)
set_option maxRecDepth 100000 in
theorem mv_Mod_freest : Cond.selects y_Mod_freest.1.cls y_Mod_freest.1 y_Mod_freest.1 ∈ gtb := (gtb_of (List.mem_append_right _ (List.mem_of_getElem? (i := 1661) (by decide +kernel))) rfl)
set_option maxRecDepth 100000 in
theorem mo_Law0_82 : mOk R_law 82 2 y_Mod_freest := ⟨Or.inl (gtb_of (List.mem_append_right _ (List.mem_of_getElem? (i := 1659) (by decide +kernel))) rfl), mk_Mod_freest⟩
set_option maxRecDepth 100000 in
theorem mk_Main_supper : Cond.code y_Main_supper.1 y_Main_supper.2.1 y_Main_supper.2.2.1 y_Main_supper.2.2.2.1 ∈ gtb ∧ Cond.initialized y_Main_supper.1.cls ∈ gtb ∧ y_Main_supper.1.cls ≠ "java/lang/invoke/MethodHandle" ∧ y_Main_supper.1.cls ≠ "java/lang/invoke/VarHandle" ∧ (parseMethodDescriptor y_Main_supper.1.desc).map (fun d => d.parameters.length) = some 0 := ⟨(gtb_of (List.mem_append_right _ (List.mem_of_getElem? (i := 983) (by decide +kernel))) rfl), cz_Main, cx_Main.1, cx_Main.2, by decide +kernel⟩
set_option maxRecDepth 100000 in
theorem mi_Main_supper : Cond.instanceMethod y_Main_supper.1 ∈ gtb := (gtb_of (List.mem_append_right _ (List.mem_of_getElem? (i := 981) (by decide +kernel))) rfl)
set_option maxRecDepth 100000 in
theorem mv_Main_supper : Cond.selects y_Main_supper.1.cls y_Main_supper.1 y_Main_supper.1 ∈ gtb := (gtb_of (List.mem_append_right _ (List.mem_of_getElem? (i := 982) (by decide +kernel))) rfl)
set_option maxRecDepth 100000 in
theorem mo_Law0_83 : mOk R_law 83 0 y_Main_supper := ⟨Or.inl (gtb_of (List.mem_append_right _ (List.mem_of_getElem? (i := 980) (by decide +kernel))) rfl), mk_Main_supper⟩
set_option maxRecDepth 100000 in
theorem mk_Mod_supper : Cond.code y_Mod_supper.1 y_Mod_supper.2.1 y_Mod_supper.2.2.1 y_Mod_supper.2.2.2.1 ∈ gtb ∧ Cond.initialized y_Mod_supper.1.cls ∈ gtb ∧ y_Mod_supper.1.cls ≠ "java/lang/invoke/MethodHandle" ∧ y_Mod_supper.1.cls ≠ "java/lang/invoke/VarHandle" ∧ (parseMethodDescriptor y_Mod_supper.1.desc).map (fun d => d.parameters.length) = some 0 := ⟨(gtb_of (List.mem_append_right _ (List.mem_of_getElem? (i := 1677) (by decide +kernel))) rfl), cz_Mod, cx_Mod.1, cx_Mod.2, by decide +kernel⟩
set_option maxRecDepth 100000 in
theorem mi_Mod_supper : Cond.instanceMethod y_Mod_supper.1 ∈ gtb := (gtb_of (List.mem_append_right _ (List.mem_of_getElem? (i := 1675) (by decide +kernel))) rfl)
set_option maxRecDepth 100000 in
theorem mv_Mod_supper : Cond.selects y_Mod_supper.1.cls y_Mod_supper.1 y_Mod_supper.1 ∈ gtb := (gtb_of (List.mem_append_right _ (List.mem_of_getElem? (i := 1676) (by decide +kernel))) rfl)
set_option maxRecDepth 100000 in
theorem mo_Law0_86 : mOk R_law 86 0 y_Mod_supper := ⟨Or.inl (gtb_of (List.mem_append_right _ (List.mem_of_getElem? (i := 1674) (by decide +kernel))) rfl), mk_Mod_supper⟩
set_option maxRecDepth 100000 in
theorem mk_Main_feud : Cond.code y_Main_feud.1 y_Main_feud.2.1 y_Main_feud.2.2.1 y_Main_feud.2.2.2.1 ∈ gtb ∧ Cond.initialized y_Main_feud.1.cls ∈ gtb ∧ y_Main_feud.1.cls ≠ "java/lang/invoke/MethodHandle" ∧ y_Main_feud.1.cls ≠ "java/lang/invoke/VarHandle" ∧ (parseMethodDescriptor y_Main_feud.1.desc).map (fun d => d.parameters.length) = some 3 := ⟨(gtb_of (List.mem_append_right _ (List.mem_of_getElem? (i := 987) (by decide +kernel))) rfl), cz_Main, cx_Main.1, cx_Main.2, by decide +kernel⟩
set_option maxRecDepth 100000 in
theorem mi_Main_feud : Cond.instanceMethod y_Main_feud.1 ∈ gtb := (gtb_of (List.mem_append_right _ (List.mem_of_getElem? (i := 985) (by decide +kernel))) rfl)
set_option maxRecDepth 100000 in
theorem mv_Main_feud : Cond.selects y_Main_feud.1.cls y_Main_feud.1 y_Main_feud.1 ∈ gtb := (gtb_of (List.mem_append_right _ (List.mem_of_getElem? (i := 986) (by decide +kernel))) rfl)
set_option maxRecDepth 100000 in
theorem mo_Law0_87 : mOk R_law 87 3 y_Main_feud := ⟨Or.inl (gtb_of (List.mem_append_right _ (List.mem_of_getElem? (i := 984) (by decide +kernel))) rfl), mk_Main_feud⟩
set_option maxRecDepth 100000 in
theorem mk_Mod_feud : Cond.code y_Mod_feud.1 y_Mod_feud.2.1 y_Mod_feud.2.2.1 y_Mod_feud.2.2.2.1 ∈ gtb ∧ Cond.initialized y_Mod_feud.1.cls ∈ gtb ∧ y_Mod_feud.1.cls ≠ "java/lang/invoke/MethodHandle" ∧ y_Mod_feud.1.cls ≠ "java/lang/invoke/VarHandle" ∧ (parseMethodDescriptor y_Mod_feud.1.desc).map (fun d => d.parameters.length) = some 3 := ⟨(gtb_of (List.mem_append_right _ (List.mem_of_getElem? (i := 1681) (by decide +kernel))) rfl), cz_Mod, cx_Mod.1, cx_Mod.2, by decide +kernel⟩
set_option maxRecDepth 100000 in
theorem mi_Mod_feud : Cond.instanceMethod y_Mod_feud.1 ∈ gtb := (gtb_of (List.mem_append_right _ (List.mem_of_getElem? (i := 1679) (by decide +kernel))) rfl)
set_option maxRecDepth 100000 in
theorem mv_Mod_feud : Cond.selects y_Mod_feud.1.cls y_Mod_feud.1 y_Mod_feud.1 ∈ gtb := (gtb_of (List.mem_append_right _ (List.mem_of_getElem? (i := 1680) (by decide +kernel))) rfl)
set_option maxRecDepth 100000 in
theorem mo_Law0_91 : mOk R_law 91 3 y_Mod_feud := ⟨Or.inl (gtb_of (List.mem_append_right _ (List.mem_of_getElem? (i := 1678) (by decide +kernel))) rfl), mk_Mod_feud⟩
set_option maxRecDepth 100000 in
theorem mk_Main_menu : Cond.code y_Main_menu.1 y_Main_menu.2.1 y_Main_menu.2.2.1 y_Main_menu.2.2.2.1 ∈ gtb ∧ Cond.initialized y_Main_menu.1.cls ∈ gtb ∧ y_Main_menu.1.cls ≠ "java/lang/invoke/MethodHandle" ∧ y_Main_menu.1.cls ≠ "java/lang/invoke/VarHandle" ∧ (parseMethodDescriptor y_Main_menu.1.desc).map (fun d => d.parameters.length) = some 4 := ⟨(gtb_of (List.mem_append_right _ (List.mem_of_getElem? (i := 991) (by decide +kernel))) rfl), cz_Main, cx_Main.1, cx_Main.2, by decide +kernel⟩
set_option maxRecDepth 100000 in
theorem mi_Main_menu : Cond.instanceMethod y_Main_menu.1 ∈ gtb := (gtb_of (List.mem_append_right _ (List.mem_of_getElem? (i := 989) (by decide +kernel))) rfl)
set_option maxRecDepth 100000 in
theorem mv_Main_menu : Cond.selects y_Main_menu.1.cls y_Main_menu.1 y_Main_menu.1 ∈ gtb := (gtb_of (List.mem_append_right _ (List.mem_of_getElem? (i := 990) (by decide +kernel))) rfl)
set_option maxRecDepth 100000 in
theorem mo_Law0_92 : mOk R_law 92 4 y_Main_menu := ⟨Or.inl (gtb_of (List.mem_append_right _ (List.mem_of_getElem? (i := 988) (by decide +kernel))) rfl), mk_Main_menu⟩
set_option maxRecDepth 100000 in
theorem mk_Mod_menu : Cond.code y_Mod_menu.1 y_Mod_menu.2.1 y_Mod_menu.2.2.1 y_Mod_menu.2.2.2.1 ∈ gtb ∧ Cond.initialized y_Mod_menu.1.cls ∈ gtb ∧ y_Mod_menu.1.cls ≠ "java/lang/invoke/MethodHandle" ∧ y_Mod_menu.1.cls ≠ "java/lang/invoke/VarHandle" ∧ (parseMethodDescriptor y_Mod_menu.1.desc).map (fun d => d.parameters.length) = some 4 := ⟨(gtb_of (List.mem_append_right _ (List.mem_of_getElem? (i := 1685) (by decide +kernel))) rfl), cz_Mod, cx_Mod.1, cx_Mod.2, by decide +kernel⟩
set_option maxRecDepth 100000 in
theorem mi_Mod_menu : Cond.instanceMethod y_Mod_menu.1 ∈ gtb := (gtb_of (List.mem_append_right _ (List.mem_of_getElem? (i := 1683) (by decide +kernel))) rfl)
set_option maxRecDepth 100000 in
theorem mv_Mod_menu : Cond.selects y_Mod_menu.1.cls y_Mod_menu.1 y_Mod_menu.1 ∈ gtb := (gtb_of (List.mem_append_right _ (List.mem_of_getElem? (i := 1684) (by decide +kernel))) rfl)
set_option maxRecDepth 100000 in
theorem mo_Law0_95 : mOk R_law 95 4 y_Mod_menu := ⟨Or.inl (gtb_of (List.mem_append_right _ (List.mem_of_getElem? (i := 1682) (by decide +kernel))) rfl), mk_Mod_menu⟩
set_option maxRecDepth 100000 in
theorem mk_Main_often : Cond.code y_Main_often.1 y_Main_often.2.1 y_Main_often.2.2.1 y_Main_often.2.2.2.1 ∈ gtb ∧ Cond.initialized y_Main_often.1.cls ∈ gtb ∧ y_Main_often.1.cls ≠ "java/lang/invoke/MethodHandle" ∧ y_Main_often.1.cls ≠ "java/lang/invoke/VarHandle" ∧ (parseMethodDescriptor y_Main_often.1.desc).map (fun d => d.parameters.length) = some 1 := ⟨(gtb_of (List.mem_append_right _ (List.mem_of_getElem? (i := 1028) (by decide +kernel))) rfl), cz_Main, cx_Main.1, cx_Main.2, by decide +kernel⟩
set_option maxRecDepth 100000 in
theorem mi_Main_often : Cond.instanceMethod y_Main_often.1 ∈ gtb := (gtb_of (List.mem_append_right _ (List.mem_of_getElem? (i := 1026) (by decide +kernel))) rfl)
set_option maxRecDepth 100000 in
theorem mv_Main_often : Cond.selects y_Main_often.1.cls y_Main_often.1 y_Main_often.1 ∈ gtb := (gtb_of (List.mem_append_right _ (List.mem_of_getElem? (i := 1027) (by decide +kernel))) rfl)
set_option maxRecDepth 100000 in
theorem mo_Law0_96 : mOk R_law 96 1 y_Main_often := ⟨Or.inl (gtb_of (List.mem_append_right _ (List.mem_of_getElem? (i := 1025) (by decide +kernel))) rfl), mk_Main_often⟩
set_option maxRecDepth 100000 in
theorem mk_Mod_often : Cond.code y_Mod_often.1 y_Mod_often.2.1 y_Mod_often.2.2.1 y_Mod_often.2.2.2.1 ∈ gtb ∧ Cond.initialized y_Mod_often.1.cls ∈ gtb ∧ y_Mod_often.1.cls ≠ "java/lang/invoke/MethodHandle" ∧ y_Mod_often.1.cls ≠ "java/lang/invoke/VarHandle" ∧ (parseMethodDescriptor y_Mod_often.1.desc).map (fun d => d.parameters.length) = some 1 := ⟨(gtb_of (List.mem_append_right _ (List.mem_of_getElem? (i := 1696) (by decide +kernel))) rfl), cz_Mod, cx_Mod.1, cx_Mod.2, by decide +kernel⟩
set_option maxRecDepth 100000 in
theorem mi_Mod_often : Cond.instanceMethod y_Mod_often.1 ∈ gtb := (gtb_of (List.mem_append_right _ (List.mem_of_getElem? (i := 1694) (by decide +kernel))) rfl)
set_option maxRecDepth 100000 in
theorem mv_Mod_often : Cond.selects y_Mod_often.1.cls y_Mod_often.1 y_Mod_often.1 ∈ gtb := (gtb_of (List.mem_append_right _ (List.mem_of_getElem? (i := 1695) (by decide +kernel))) rfl)
set_option maxRecDepth 100000 in
theorem mo_Law0_99 : mOk R_law 99 1 y_Mod_often := ⟨Or.inl (gtb_of (List.mem_append_right _ (List.mem_of_getElem? (i := 1693) (by decide +kernel))) rfl), mk_Mod_often⟩
set_option maxRecDepth 100000 in
theorem mk_Main_hunger : Cond.code y_Main_hunger.1 y_Main_hunger.2.1 y_Main_hunger.2.2.1 y_Main_hunger.2.2.2.1 ∈ gtb ∧ Cond.initialized y_Main_hunger.1.cls ∈ gtb ∧ y_Main_hunger.1.cls ≠ "java/lang/invoke/MethodHandle" ∧ y_Main_hunger.1.cls ≠ "java/lang/invoke/VarHandle" ∧ (parseMethodDescriptor y_Main_hunger.1.desc).map (fun d => d.parameters.length) = some 2 := ⟨(gtb_of (List.mem_append_right _ (List.mem_of_getElem? (i := 1033) (by decide +kernel))) rfl), cz_Main, cx_Main.1, cx_Main.2, by decide +kernel⟩
set_option maxRecDepth 100000 in
theorem mi_Main_hunger : Cond.instanceMethod y_Main_hunger.1 ∈ gtb := (gtb_of (List.mem_append_right _ (List.mem_of_getElem? (i := 1031) (by decide +kernel))) rfl)
set_option maxRecDepth 100000 in
theorem mv_Main_hunger : Cond.selects y_Main_hunger.1.cls y_Main_hunger.1 y_Main_hunger.1 ∈ gtb := (gtb_of (List.mem_append_right _ (List.mem_of_getElem? (i := 1032) (by decide +kernel))) rfl)
set_option maxRecDepth 100000 in
theorem mo_Law0_100 : mOk R_law 100 2 y_Main_hunger := ⟨Or.inl (gtb_of (List.mem_append_right _ (List.mem_of_getElem? (i := 1030) (by decide +kernel))) rfl), mk_Main_hunger⟩
set_option maxRecDepth 100000 in
theorem mk_Mod_hunger : Cond.code y_Mod_hunger.1 y_Mod_hunger.2.1 y_Mod_hunger.2.2.1 y_Mod_hunger.2.2.2.1 ∈ gtb ∧ Cond.initialized y_Mod_hunger.1.cls ∈ gtb ∧ y_Mod_hunger.1.cls ≠ "java/lang/invoke/MethodHandle" ∧ y_Mod_hunger.1.cls ≠ "java/lang/invoke/VarHandle" ∧ (parseMethodDescriptor y_Mod_hunger.1.desc).map (fun d => d.parameters.length) = some 2 := ⟨(gtb_of (List.mem_append_right _ (List.mem_of_getElem? (i := 1700) (by decide +kernel))) rfl), cz_Mod, cx_Mod.1, cx_Mod.2, by decide +kernel⟩
set_option maxRecDepth 100000 in
theorem mi_Mod_hunger : Cond.instanceMethod y_Mod_hunger.1 ∈ gtb := (gtb_of (List.mem_append_right _ (List.mem_of_getElem? (i := 1698) (by decide +kernel))) rfl)
set_option maxRecDepth 100000 in
theorem mv_Mod_hunger : Cond.selects y_Mod_hunger.1.cls y_Mod_hunger.1 y_Mod_hunger.1 ∈ gtb := (gtb_of (List.mem_append_right _ (List.mem_of_getElem? (i := 1699) (by decide +kernel))) rfl)
set_option maxRecDepth 100000 in
theorem mo_Law0_103 : mOk R_law 103 2 y_Mod_hunger := ⟨Or.inl (gtb_of (List.mem_append_right _ (List.mem_of_getElem? (i := 1697) (by decide +kernel))) rfl), mk_Mod_hunger⟩
set_option maxRecDepth 100000 in
theorem mk_Main_stockIn : Cond.code y_Main_stockIn.1 y_Main_stockIn.2.1 y_Main_stockIn.2.2.1 y_Main_stockIn.2.2.2.1 ∈ gtb ∧ Cond.initialized y_Main_stockIn.1.cls ∈ gtb ∧ y_Main_stockIn.1.cls ≠ "java/lang/invoke/MethodHandle" ∧ y_Main_stockIn.1.cls ≠ "java/lang/invoke/VarHandle" ∧ (parseMethodDescriptor y_Main_stockIn.1.desc).map (fun d => d.parameters.length) = some 2 := ⟨(gtb_of (List.mem_append_right _ (List.mem_of_getElem? (i := 1037) (by decide +kernel))) rfl), cz_Main, cx_Main.1, cx_Main.2, by decide +kernel⟩
set_option maxRecDepth 100000 in
theorem mi_Main_stockIn : Cond.instanceMethod y_Main_stockIn.1 ∈ gtb := (gtb_of (List.mem_append_right _ (List.mem_of_getElem? (i := 1035) (by decide +kernel))) rfl)
set_option maxRecDepth 100000 in
theorem mv_Main_stockIn : Cond.selects y_Main_stockIn.1.cls y_Main_stockIn.1 y_Main_stockIn.1 ∈ gtb := (gtb_of (List.mem_append_right _ (List.mem_of_getElem? (i := 1036) (by decide +kernel))) rfl)
set_option maxRecDepth 100000 in
theorem mo_Law0_104 : mOk R_law 104 2 y_Main_stockIn := ⟨Or.inl (gtb_of (List.mem_append_right _ (List.mem_of_getElem? (i := 1034) (by decide +kernel))) rfl), mk_Main_stockIn⟩
set_option maxRecDepth 100000 in
theorem mk_Mod_stockIn : Cond.code y_Mod_stockIn.1 y_Mod_stockIn.2.1 y_Mod_stockIn.2.2.1 y_Mod_stockIn.2.2.2.1 ∈ gtb ∧ Cond.initialized y_Mod_stockIn.1.cls ∈ gtb ∧ y_Mod_stockIn.1.cls ≠ "java/lang/invoke/MethodHandle" ∧ y_Mod_stockIn.1.cls ≠ "java/lang/invoke/VarHandle" ∧ (parseMethodDescriptor y_Mod_stockIn.1.desc).map (fun d => d.parameters.length) = some 2 := ⟨(gtb_of (List.mem_append_right _ (List.mem_of_getElem? (i := 1704) (by decide +kernel))) rfl), cz_Mod, cx_Mod.1, cx_Mod.2, by decide +kernel⟩
set_option maxRecDepth 100000 in
theorem mi_Mod_stockIn : Cond.instanceMethod y_Mod_stockIn.1 ∈ gtb := (gtb_of (List.mem_append_right _ (List.mem_of_getElem? (i := 1702) (by decide +kernel))) rfl)
set_option maxRecDepth 100000 in
theorem mv_Mod_stockIn : Cond.selects y_Mod_stockIn.1.cls y_Mod_stockIn.1 y_Mod_stockIn.1 ∈ gtb := (gtb_of (List.mem_append_right _ (List.mem_of_getElem? (i := 1703) (by decide +kernel))) rfl)
set_option maxRecDepth 100000 in
theorem mo_Law0_107 : mOk R_law 107 2 y_Mod_stockIn := ⟨Or.inl (gtb_of (List.mem_append_right _ (List.mem_of_getElem? (i := 1701) (by decide +kernel))) rfl), mk_Mod_stockIn⟩
set_option maxRecDepth 100000 in
theorem mk_Main_boundIn : Cond.code y_Main_boundIn.1 y_Main_boundIn.2.1 y_Main_boundIn.2.2.1 y_Main_boundIn.2.2.2.1 ∈ gtb ∧ Cond.initialized y_Main_boundIn.1.cls ∈ gtb ∧ y_Main_boundIn.1.cls ≠ "java/lang/invoke/MethodHandle" ∧ y_Main_boundIn.1.cls ≠ "java/lang/invoke/VarHandle" ∧ (parseMethodDescriptor y_Main_boundIn.1.desc).map (fun d => d.parameters.length) = some 3 := ⟨(gtb_of (List.mem_append_right _ (List.mem_of_getElem? (i := 1041) (by decide +kernel))) rfl), cz_Main, cx_Main.1, cx_Main.2, by decide +kernel⟩
set_option maxRecDepth 100000 in
theorem mi_Main_boundIn : Cond.instanceMethod y_Main_boundIn.1 ∈ gtb := (gtb_of (List.mem_append_right _ (List.mem_of_getElem? (i := 1039) (by decide +kernel))) rfl)
set_option maxRecDepth 100000 in
theorem mv_Main_boundIn : Cond.selects y_Main_boundIn.1.cls y_Main_boundIn.1 y_Main_boundIn.1 ∈ gtb := (gtb_of (List.mem_append_right _ (List.mem_of_getElem? (i := 1040) (by decide +kernel))) rfl)
set_option maxRecDepth 100000 in
theorem mo_Law0_108 : mOk R_law 108 3 y_Main_boundIn := ⟨Or.inl (gtb_of (List.mem_append_right _ (List.mem_of_getElem? (i := 1038) (by decide +kernel))) rfl), mk_Main_boundIn⟩
set_option maxRecDepth 100000 in
theorem mk_Mod_boundIn : Cond.code y_Mod_boundIn.1 y_Mod_boundIn.2.1 y_Mod_boundIn.2.2.1 y_Mod_boundIn.2.2.2.1 ∈ gtb ∧ Cond.initialized y_Mod_boundIn.1.cls ∈ gtb ∧ y_Mod_boundIn.1.cls ≠ "java/lang/invoke/MethodHandle" ∧ y_Mod_boundIn.1.cls ≠ "java/lang/invoke/VarHandle" ∧ (parseMethodDescriptor y_Mod_boundIn.1.desc).map (fun d => d.parameters.length) = some 3 := ⟨(gtb_of (List.mem_append_right _ (List.mem_of_getElem? (i := 1711) (by decide +kernel))) rfl), cz_Mod, cx_Mod.1, cx_Mod.2, by decide +kernel⟩
set_option maxRecDepth 100000 in
theorem mi_Mod_boundIn : Cond.instanceMethod y_Mod_boundIn.1 ∈ gtb := (gtb_of (List.mem_append_right _ (List.mem_of_getElem? (i := 1709) (by decide +kernel))) rfl)
set_option maxRecDepth 100000 in
theorem mv_Mod_boundIn : Cond.selects y_Mod_boundIn.1.cls y_Mod_boundIn.1 y_Mod_boundIn.1 ∈ gtb := (gtb_of (List.mem_append_right _ (List.mem_of_getElem? (i := 1710) (by decide +kernel))) rfl)
set_option maxRecDepth 100000 in
theorem mo_Law0_111 : mOk R_law 111 3 y_Mod_boundIn := ⟨Or.inl (gtb_of (List.mem_append_right _ (List.mem_of_getElem? (i := 1708) (by decide +kernel))) rfl), mk_Mod_boundIn⟩
set_option maxRecDepth 100000 in
theorem mk_Main_year : Cond.code y_Main_year.1 y_Main_year.2.1 y_Main_year.2.2.1 y_Main_year.2.2.2.1 ∈ gtb ∧ Cond.initialized y_Main_year.1.cls ∈ gtb ∧ y_Main_year.1.cls ≠ "java/lang/invoke/MethodHandle" ∧ y_Main_year.1.cls ≠ "java/lang/invoke/VarHandle" ∧ (parseMethodDescriptor y_Main_year.1.desc).map (fun d => d.parameters.length) = some 4 := ⟨(gtb_of (List.mem_append_right _ (List.mem_of_getElem? (i := 1045) (by decide +kernel))) rfl), cz_Main, cx_Main.1, cx_Main.2, by decide +kernel⟩
set_option maxRecDepth 100000 in
theorem mi_Main_year : Cond.instanceMethod y_Main_year.1 ∈ gtb := (gtb_of (List.mem_append_right _ (List.mem_of_getElem? (i := 1043) (by decide +kernel))) rfl)
set_option maxRecDepth 100000 in
theorem mv_Main_year : Cond.selects y_Main_year.1.cls y_Main_year.1 y_Main_year.1 ∈ gtb := (gtb_of (List.mem_append_right _ (List.mem_of_getElem? (i := 1044) (by decide +kernel))) rfl)
set_option maxRecDepth 100000 in
theorem mo_Law0_112 : mOk R_law 112 4 y_Main_year := ⟨Or.inl (gtb_of (List.mem_append_right _ (List.mem_of_getElem? (i := 1042) (by decide +kernel))) rfl), mk_Main_year⟩
set_option maxRecDepth 100000 in
theorem mk_Mod_year : Cond.code y_Mod_year.1 y_Mod_year.2.1 y_Mod_year.2.2.1 y_Mod_year.2.2.2.1 ∈ gtb ∧ Cond.initialized y_Mod_year.1.cls ∈ gtb ∧ y_Mod_year.1.cls ≠ "java/lang/invoke/MethodHandle" ∧ y_Mod_year.1.cls ≠ "java/lang/invoke/VarHandle" ∧ (parseMethodDescriptor y_Mod_year.1.desc).map (fun d => d.parameters.length) = some 4 := ⟨(gtb_of (List.mem_append_right _ (List.mem_of_getElem? (i := 1715) (by decide +kernel))) rfl), cz_Mod, cx_Mod.1, cx_Mod.2, by decide +kernel⟩
set_option maxRecDepth 100000 in
theorem mi_Mod_year : Cond.instanceMethod y_Mod_year.1 ∈ gtb := (gtb_of (List.mem_append_right _ (List.mem_of_getElem? (i := 1713) (by decide +kernel))) rfl)
set_option maxRecDepth 100000 in
theorem mv_Mod_year : Cond.selects y_Mod_year.1.cls y_Mod_year.1 y_Mod_year.1 ∈ gtb := (gtb_of (List.mem_append_right _ (List.mem_of_getElem? (i := 1714) (by decide +kernel))) rfl)
set_option maxRecDepth 100000 in
theorem mo_Law0_115 : mOk R_law 115 4 y_Mod_year := ⟨Or.inl (gtb_of (List.mem_append_right _ (List.mem_of_getElem? (i := 1712) (by decide +kernel))) rfl), mk_Mod_year⟩
set_option maxRecDepth 100000 in
theorem mk_Main_tell : Cond.code y_Main_tell.1 y_Main_tell.2.1 y_Main_tell.2.2.1 y_Main_tell.2.2.2.1 ∈ gtb ∧ Cond.initialized y_Main_tell.1.cls ∈ gtb ∧ y_Main_tell.1.cls ≠ "java/lang/invoke/MethodHandle" ∧ y_Main_tell.1.cls ≠ "java/lang/invoke/VarHandle" ∧ (parseMethodDescriptor y_Main_tell.1.desc).map (fun d => d.parameters.length) = some 3 := ⟨(gtb_of (List.mem_append_right _ (List.mem_of_getElem? (i := 1050) (by decide +kernel))) rfl), cz_Main, cx_Main.1, cx_Main.2, by decide +kernel⟩
set_option maxRecDepth 100000 in
theorem mi_Main_tell : Cond.instanceMethod y_Main_tell.1 ∈ gtb := (gtb_of (List.mem_append_right _ (List.mem_of_getElem? (i := 1048) (by decide +kernel))) rfl)
set_option maxRecDepth 100000 in
theorem mv_Main_tell : Cond.selects y_Main_tell.1.cls y_Main_tell.1 y_Main_tell.1 ∈ gtb := (gtb_of (List.mem_append_right _ (List.mem_of_getElem? (i := 1049) (by decide +kernel))) rfl)
set_option maxRecDepth 100000 in
theorem mo_Law0_116 : mOk R_law 116 3 y_Main_tell := ⟨Or.inl (gtb_of (List.mem_append_right _ (List.mem_of_getElem? (i := 1047) (by decide +kernel))) rfl), mk_Main_tell⟩
set_option maxRecDepth 100000 in
theorem mk_Mod_tell : Cond.code y_Mod_tell.1 y_Mod_tell.2.1 y_Mod_tell.2.2.1 y_Mod_tell.2.2.2.1 ∈ gtb ∧ Cond.initialized y_Mod_tell.1.cls ∈ gtb ∧ y_Mod_tell.1.cls ≠ "java/lang/invoke/MethodHandle" ∧ y_Mod_tell.1.cls ≠ "java/lang/invoke/VarHandle" ∧ (parseMethodDescriptor y_Mod_tell.1.desc).map (fun d => d.parameters.length) = some 3 := ⟨(gtb_of (List.mem_append_right _ (List.mem_of_getElem? (i := 1719) (by decide +kernel))) rfl), cz_Mod, cx_Mod.1, cx_Mod.2, by decide +kernel⟩
set_option maxRecDepth 100000 in
theorem mi_Mod_tell : Cond.instanceMethod y_Mod_tell.1 ∈ gtb := (gtb_of (List.mem_append_right _ (List.mem_of_getElem? (i := 1717) (by decide +kernel))) rfl)
set_option maxRecDepth 100000 in
theorem mv_Mod_tell : Cond.selects y_Mod_tell.1.cls y_Mod_tell.1 y_Mod_tell.1 ∈ gtb := (gtb_of (List.mem_append_right _ (List.mem_of_getElem? (i := 1718) (by decide +kernel))) rfl)
set_option maxRecDepth 100000 in
theorem mo_Law0_119 : mOk R_law 119 3 y_Mod_tell := ⟨Or.inl (gtb_of (List.mem_append_right _ (List.mem_of_getElem? (i := 1716) (by decide +kernel))) rfl), mk_Mod_tell⟩
set_option maxRecDepth 100000 in
theorem mk_Main_forget : Cond.code y_Main_forget.1 y_Main_forget.2.1 y_Main_forget.2.2.1 y_Main_forget.2.2.2.1 ∈ gtb ∧ Cond.initialized y_Main_forget.1.cls ∈ gtb ∧ y_Main_forget.1.cls ≠ "java/lang/invoke/MethodHandle" ∧ y_Main_forget.1.cls ≠ "java/lang/invoke/VarHandle" ∧ (parseMethodDescriptor y_Main_forget.1.desc).map (fun d => d.parameters.length) = some 0 := ⟨(gtb_of (List.mem_append_right _ (List.mem_of_getElem? (i := 1059) (by decide +kernel))) rfl), cz_Main, cx_Main.1, cx_Main.2, by decide +kernel⟩
set_option maxRecDepth 100000 in
theorem mi_Main_forget : Cond.instanceMethod y_Main_forget.1 ∈ gtb := (gtb_of (List.mem_append_right _ (List.mem_of_getElem? (i := 1057) (by decide +kernel))) rfl)
set_option maxRecDepth 100000 in
theorem mv_Main_forget : Cond.selects y_Main_forget.1.cls y_Main_forget.1 y_Main_forget.1 ∈ gtb := (gtb_of (List.mem_append_right _ (List.mem_of_getElem? (i := 1058) (by decide +kernel))) rfl)
set_option maxRecDepth 100000 in
theorem mo_Law0_120 : mOk R_law 120 0 y_Main_forget := ⟨Or.inl (gtb_of (List.mem_append_right _ (List.mem_of_getElem? (i := 1056) (by decide +kernel))) rfl), mk_Main_forget⟩
set_option maxRecDepth 100000 in
theorem mk_Mod_forget : Cond.code y_Mod_forget.1 y_Mod_forget.2.1 y_Mod_forget.2.2.1 y_Mod_forget.2.2.2.1 ∈ gtb ∧ Cond.initialized y_Mod_forget.1.cls ∈ gtb ∧ y_Mod_forget.1.cls ≠ "java/lang/invoke/MethodHandle" ∧ y_Mod_forget.1.cls ≠ "java/lang/invoke/VarHandle" ∧ (parseMethodDescriptor y_Mod_forget.1.desc).map (fun d => d.parameters.length) = some 0 := ⟨(gtb_of (List.mem_append_right _ (List.mem_of_getElem? (i := 1723) (by decide +kernel))) rfl), cz_Mod, cx_Mod.1, cx_Mod.2, by decide +kernel⟩
set_option maxRecDepth 100000 in
theorem mi_Mod_forget : Cond.instanceMethod y_Mod_forget.1 ∈ gtb := (gtb_of (List.mem_append_right _ (List.mem_of_getElem? (i := 1721) (by decide +kernel))) rfl)
set_option maxRecDepth 100000 in
theorem mv_Mod_forget : Cond.selects y_Mod_forget.1.cls y_Mod_forget.1 y_Mod_forget.1 ∈ gtb := (gtb_of (List.mem_append_right _ (List.mem_of_getElem? (i := 1722) (by decide +kernel))) rfl)
set_option maxRecDepth 100000 in
theorem mo_Law0_123 : mOk R_law 123 0 y_Mod_forget := ⟨Or.inl (gtb_of (List.mem_append_right _ (List.mem_of_getElem? (i := 1720) (by decide +kernel))) rfl), mk_Mod_forget⟩
set_option maxRecDepth 100000 in
theorem mk_Main_blame : Cond.code y_Main_blame.1 y_Main_blame.2.1 y_Main_blame.2.2.1 y_Main_blame.2.2.2.1 ∈ gtb ∧ Cond.initialized y_Main_blame.1.cls ∈ gtb ∧ y_Main_blame.1.cls ≠ "java/lang/invoke/MethodHandle" ∧ y_Main_blame.1.cls ≠ "java/lang/invoke/VarHandle" ∧ (parseMethodDescriptor y_Main_blame.1.desc).map (fun d => d.parameters.length) = some 1 := ⟨(gtb_of (List.mem_append_right _ (List.mem_of_getElem? (i := 1063) (by decide +kernel))) rfl), cz_Main, cx_Main.1, cx_Main.2, by decide +kernel⟩
set_option maxRecDepth 100000 in
theorem mi_Main_blame : Cond.instanceMethod y_Main_blame.1 ∈ gtb := (gtb_of (List.mem_append_right _ (List.mem_of_getElem? (i := 1061) (by decide +kernel))) rfl)
set_option maxRecDepth 100000 in
theorem mv_Main_blame : Cond.selects y_Main_blame.1.cls y_Main_blame.1 y_Main_blame.1 ∈ gtb := (gtb_of (List.mem_append_right _ (List.mem_of_getElem? (i := 1062) (by decide +kernel))) rfl)
set_option maxRecDepth 100000 in
theorem mo_Law0_124 : mOk R_law 124 1 y_Main_blame := ⟨Or.inl (gtb_of (List.mem_append_right _ (List.mem_of_getElem? (i := 1060) (by decide +kernel))) rfl), mk_Main_blame⟩
set_option maxRecDepth 100000 in
theorem mk_Mod_blame : Cond.code y_Mod_blame.1 y_Mod_blame.2.1 y_Mod_blame.2.2.1 y_Mod_blame.2.2.2.1 ∈ gtb ∧ Cond.initialized y_Mod_blame.1.cls ∈ gtb ∧ y_Mod_blame.1.cls ≠ "java/lang/invoke/MethodHandle" ∧ y_Mod_blame.1.cls ≠ "java/lang/invoke/VarHandle" ∧ (parseMethodDescriptor y_Mod_blame.1.desc).map (fun d => d.parameters.length) = some 1 := ⟨(gtb_of (List.mem_append_right _ (List.mem_of_getElem? (i := 1727) (by decide +kernel))) rfl), cz_Mod, cx_Mod.1, cx_Mod.2, by decide +kernel⟩
set_option maxRecDepth 100000 in
theorem mi_Mod_blame : Cond.instanceMethod y_Mod_blame.1 ∈ gtb := (gtb_of (List.mem_append_right _ (List.mem_of_getElem? (i := 1725) (by decide +kernel))) rfl)
set_option maxRecDepth 100000 in
theorem mv_Mod_blame : Cond.selects y_Mod_blame.1.cls y_Mod_blame.1 y_Mod_blame.1 ∈ gtb := (gtb_of (List.mem_append_right _ (List.mem_of_getElem? (i := 1726) (by decide +kernel))) rfl)
set_option maxRecDepth 100000 in
theorem mo_Law0_127 : mOk R_law 127 1 y_Mod_blame := ⟨Or.inl (gtb_of (List.mem_append_right _ (List.mem_of_getElem? (i := 1724) (by decide +kernel))) rfl), mk_Mod_blame⟩
set_option maxRecDepth 100000 in
theorem mk_Main_sure : Cond.code y_Main_sure.1 y_Main_sure.2.1 y_Main_sure.2.2.1 y_Main_sure.2.2.2.1 ∈ gtb ∧ Cond.initialized y_Main_sure.1.cls ∈ gtb ∧ y_Main_sure.1.cls ≠ "java/lang/invoke/MethodHandle" ∧ y_Main_sure.1.cls ≠ "java/lang/invoke/VarHandle" ∧ (parseMethodDescriptor y_Main_sure.1.desc).map (fun d => d.parameters.length) = some 1 := ⟨(gtb_of (List.mem_append_right _ (List.mem_of_getElem? (i := 1089) (by decide +kernel))) rfl), cz_Main, cx_Main.1, cx_Main.2, by decide +kernel⟩
set_option maxRecDepth 100000 in
theorem mi_Main_sure : Cond.instanceMethod y_Main_sure.1 ∈ gtb := (gtb_of (List.mem_append_right _ (List.mem_of_getElem? (i := 1087) (by decide +kernel))) rfl)
set_option maxRecDepth 100000 in
theorem mv_Main_sure : Cond.selects y_Main_sure.1.cls y_Main_sure.1 y_Main_sure.1 ∈ gtb := (gtb_of (List.mem_append_right _ (List.mem_of_getElem? (i := 1088) (by decide +kernel))) rfl)
set_option maxRecDepth 100000 in
theorem mo_Law0_128 : mOk R_law 128 1 y_Main_sure := ⟨Or.inl (gtb_of (List.mem_append_right _ (List.mem_of_getElem? (i := 1086) (by decide +kernel))) rfl), mk_Main_sure⟩
set_option maxRecDepth 100000 in
theorem mk_Mod_sure : Cond.code y_Mod_sure.1 y_Mod_sure.2.1 y_Mod_sure.2.2.1 y_Mod_sure.2.2.2.1 ∈ gtb ∧ Cond.initialized y_Mod_sure.1.cls ∈ gtb ∧ y_Mod_sure.1.cls ≠ "java/lang/invoke/MethodHandle" ∧ y_Mod_sure.1.cls ≠ "java/lang/invoke/VarHandle" ∧ (parseMethodDescriptor y_Mod_sure.1.desc).map (fun d => d.parameters.length) = some 1 := ⟨(gtb_of (List.mem_append_right _ (List.mem_of_getElem? (i := 1743) (by decide +kernel))) rfl), cz_Mod, cx_Mod.1, cx_Mod.2, by decide +kernel⟩
set_option maxRecDepth 100000 in
theorem mi_Mod_sure : Cond.instanceMethod y_Mod_sure.1 ∈ gtb := (gtb_of (List.mem_append_right _ (List.mem_of_getElem? (i := 1741) (by decide +kernel))) rfl)
set_option maxRecDepth 100000 in
theorem mv_Mod_sure : Cond.selects y_Mod_sure.1.cls y_Mod_sure.1 y_Mod_sure.1 ∈ gtb := (gtb_of (List.mem_append_right _ (List.mem_of_getElem? (i := 1742) (by decide +kernel))) rfl)
set_option maxRecDepth 100000 in
theorem mo_Law0_131 : mOk R_law 131 1 y_Mod_sure := ⟨Or.inl (gtb_of (List.mem_append_right _ (List.mem_of_getElem? (i := 1740) (by decide +kernel))) rfl), mk_Mod_sure⟩
set_option maxRecDepth 100000 in
theorem mk_Main_taste : Cond.code y_Main_taste.1 y_Main_taste.2.1 y_Main_taste.2.2.1 y_Main_taste.2.2.2.1 ∈ gtb ∧ Cond.initialized y_Main_taste.1.cls ∈ gtb ∧ y_Main_taste.1.cls ≠ "java/lang/invoke/MethodHandle" ∧ y_Main_taste.1.cls ≠ "java/lang/invoke/VarHandle" ∧ (parseMethodDescriptor y_Main_taste.1.desc).map (fun d => d.parameters.length) = some 1 := ⟨(gtb_of (List.mem_append_right _ (List.mem_of_getElem? (i := 1097) (by decide +kernel))) rfl), cz_Main, cx_Main.1, cx_Main.2, by decide +kernel⟩
set_option maxRecDepth 100000 in
theorem mi_Main_taste : Cond.instanceMethod y_Main_taste.1 ∈ gtb := (gtb_of (List.mem_append_right _ (List.mem_of_getElem? (i := 1095) (by decide +kernel))) rfl)
set_option maxRecDepth 100000 in
theorem mv_Main_taste : Cond.selects y_Main_taste.1.cls y_Main_taste.1 y_Main_taste.1 ∈ gtb := (gtb_of (List.mem_append_right _ (List.mem_of_getElem? (i := 1096) (by decide +kernel))) rfl)
set_option maxRecDepth 100000 in
theorem mo_Law0_132 : mOk R_law 132 1 y_Main_taste := ⟨Or.inl (gtb_of (List.mem_append_right _ (List.mem_of_getElem? (i := 1094) (by decide +kernel))) rfl), mk_Main_taste⟩
set_option maxRecDepth 100000 in
theorem mk_Mod_taste : Cond.code y_Mod_taste.1 y_Mod_taste.2.1 y_Mod_taste.2.2.1 y_Mod_taste.2.2.2.1 ∈ gtb ∧ Cond.initialized y_Mod_taste.1.cls ∈ gtb ∧ y_Mod_taste.1.cls ≠ "java/lang/invoke/MethodHandle" ∧ y_Mod_taste.1.cls ≠ "java/lang/invoke/VarHandle" ∧ (parseMethodDescriptor y_Mod_taste.1.desc).map (fun d => d.parameters.length) = some 1 := ⟨(gtb_of (List.mem_append_right _ (List.mem_of_getElem? (i := 1747) (by decide +kernel))) rfl), cz_Mod, cx_Mod.1, cx_Mod.2, by decide +kernel⟩
set_option maxRecDepth 100000 in
theorem mi_Mod_taste : Cond.instanceMethod y_Mod_taste.1 ∈ gtb := (gtb_of (List.mem_append_right _ (List.mem_of_getElem? (i := 1745) (by decide +kernel))) rfl)
set_option maxRecDepth 100000 in
theorem mv_Mod_taste : Cond.selects y_Mod_taste.1.cls y_Mod_taste.1 y_Mod_taste.1 ∈ gtb := (gtb_of (List.mem_append_right _ (List.mem_of_getElem? (i := 1746) (by decide +kernel))) rfl)
set_option maxRecDepth 100000 in
theorem mo_Law0_135 : mOk R_law 135 1 y_Mod_taste := ⟨Or.inl (gtb_of (List.mem_append_right _ (List.mem_of_getElem? (i := 1744) (by decide +kernel))) rfl), mk_Mod_taste⟩
set_option maxRecDepth 100000 in
theorem mk_Main_hold : Cond.code y_Main_hold.1 y_Main_hold.2.1 y_Main_hold.2.2.1 y_Main_hold.2.2.2.1 ∈ gtb ∧ Cond.initialized y_Main_hold.1.cls ∈ gtb ∧ y_Main_hold.1.cls ≠ "java/lang/invoke/MethodHandle" ∧ y_Main_hold.1.cls ≠ "java/lang/invoke/VarHandle" ∧ (parseMethodDescriptor y_Main_hold.1.desc).map (fun d => d.parameters.length) = some 1 := ⟨(gtb_of (List.mem_append_right _ (List.mem_of_getElem? (i := 1111) (by decide +kernel))) rfl), cz_Main, cx_Main.1, cx_Main.2, by decide +kernel⟩
set_option maxRecDepth 100000 in
theorem mi_Main_hold : Cond.instanceMethod y_Main_hold.1 ∈ gtb := (gtb_of (List.mem_append_right _ (List.mem_of_getElem? (i := 1109) (by decide +kernel))) rfl)
set_option maxRecDepth 100000 in
theorem mv_Main_hold : Cond.selects y_Main_hold.1.cls y_Main_hold.1 y_Main_hold.1 ∈ gtb := (gtb_of (List.mem_append_right _ (List.mem_of_getElem? (i := 1110) (by decide +kernel))) rfl)
set_option maxRecDepth 100000 in
theorem mo_Law0_136 : mOk R_law 136 1 y_Main_hold := ⟨Or.inl (gtb_of (List.mem_append_right _ (List.mem_of_getElem? (i := 1108) (by decide +kernel))) rfl), mk_Main_hold⟩
set_option maxRecDepth 100000 in
theorem mk_Mod_hold : Cond.code y_Mod_hold.1 y_Mod_hold.2.1 y_Mod_hold.2.2.1 y_Mod_hold.2.2.2.1 ∈ gtb ∧ Cond.initialized y_Mod_hold.1.cls ∈ gtb ∧ y_Mod_hold.1.cls ≠ "java/lang/invoke/MethodHandle" ∧ y_Mod_hold.1.cls ≠ "java/lang/invoke/VarHandle" ∧ (parseMethodDescriptor y_Mod_hold.1.desc).map (fun d => d.parameters.length) = some 1 := ⟨(gtb_of (List.mem_append_right _ (List.mem_of_getElem? (i := 1751) (by decide +kernel))) rfl), cz_Mod, cx_Mod.1, cx_Mod.2, by decide +kernel⟩
set_option maxRecDepth 100000 in
theorem mi_Mod_hold : Cond.instanceMethod y_Mod_hold.1 ∈ gtb := (gtb_of (List.mem_append_right _ (List.mem_of_getElem? (i := 1749) (by decide +kernel))) rfl)
set_option maxRecDepth 100000 in
theorem mv_Mod_hold : Cond.selects y_Mod_hold.1.cls y_Mod_hold.1 y_Mod_hold.1 ∈ gtb := (gtb_of (List.mem_append_right _ (List.mem_of_getElem? (i := 1750) (by decide +kernel))) rfl)
set_option maxRecDepth 100000 in
theorem mo_Law0_140 : mOk R_law 140 1 y_Mod_hold := ⟨Or.inl (gtb_of (List.mem_append_right _ (List.mem_of_getElem? (i := 1748) (by decide +kernel))) rfl), mk_Mod_hold⟩
set_option maxRecDepth 100000 in
theorem mk_Main_restore : Cond.code y_Main_restore.1 y_Main_restore.2.1 y_Main_restore.2.2.1 y_Main_restore.2.2.2.1 ∈ gtb ∧ Cond.initialized y_Main_restore.1.cls ∈ gtb ∧ y_Main_restore.1.cls ≠ "java/lang/invoke/MethodHandle" ∧ y_Main_restore.1.cls ≠ "java/lang/invoke/VarHandle" ∧ (parseMethodDescriptor y_Main_restore.1.desc).map (fun d => d.parameters.length) = some 1 := ⟨(gtb_of (List.mem_append_right _ (List.mem_of_getElem? (i := 1120) (by decide +kernel))) rfl), cz_Main, cx_Main.1, cx_Main.2, by decide +kernel⟩
set_option maxRecDepth 100000 in
theorem mi_Main_restore : Cond.instanceMethod y_Main_restore.1 ∈ gtb := (gtb_of (List.mem_append_right _ (List.mem_of_getElem? (i := 1118) (by decide +kernel))) rfl)
set_option maxRecDepth 100000 in
theorem mv_Main_restore : Cond.selects y_Main_restore.1.cls y_Main_restore.1 y_Main_restore.1 ∈ gtb := (gtb_of (List.mem_append_right _ (List.mem_of_getElem? (i := 1119) (by decide +kernel))) rfl)
set_option maxRecDepth 100000 in
theorem mo_Law0_141 : mOk R_law 141 1 y_Main_restore := ⟨Or.inl (gtb_of (List.mem_append_right _ (List.mem_of_getElem? (i := 1117) (by decide +kernel))) rfl), mk_Main_restore⟩
set_option maxRecDepth 100000 in
theorem mk_Mod_restore : Cond.code y_Mod_restore.1 y_Mod_restore.2.1 y_Mod_restore.2.2.1 y_Mod_restore.2.2.2.1 ∈ gtb ∧ Cond.initialized y_Mod_restore.1.cls ∈ gtb ∧ y_Mod_restore.1.cls ≠ "java/lang/invoke/MethodHandle" ∧ y_Mod_restore.1.cls ≠ "java/lang/invoke/VarHandle" ∧ (parseMethodDescriptor y_Mod_restore.1.desc).map (fun d => d.parameters.length) = some 1 := ⟨(gtb_of (List.mem_append_right _ (List.mem_of_getElem? (i := 1755) (by decide +kernel))) rfl), cz_Mod, cx_Mod.1, cx_Mod.2, by decide +kernel⟩
set_option maxRecDepth 100000 in
theorem mi_Mod_restore : Cond.instanceMethod y_Mod_restore.1 ∈ gtb := (gtb_of (List.mem_append_right _ (List.mem_of_getElem? (i := 1753) (by decide +kernel))) rfl)
set_option maxRecDepth 100000 in
theorem mv_Mod_restore : Cond.selects y_Mod_restore.1.cls y_Mod_restore.1 y_Mod_restore.1 ∈ gtb := (gtb_of (List.mem_append_right _ (List.mem_of_getElem? (i := 1754) (by decide +kernel))) rfl)
set_option maxRecDepth 100000 in
theorem mo_Law0_144 : mOk R_law 144 1 y_Mod_restore := ⟨Or.inl (gtb_of (List.mem_append_right _ (List.mem_of_getElem? (i := 1752) (by decide +kernel))) rfl), mk_Mod_restore⟩
set_option maxRecDepth 100000 in
theorem mk_Main_count : Cond.code y_Main_count.1 y_Main_count.2.1 y_Main_count.2.2.1 y_Main_count.2.2.2.1 ∈ gtb ∧ Cond.initialized y_Main_count.1.cls ∈ gtb ∧ y_Main_count.1.cls ≠ "java/lang/invoke/MethodHandle" ∧ y_Main_count.1.cls ≠ "java/lang/invoke/VarHandle" ∧ (parseMethodDescriptor y_Main_count.1.desc).map (fun d => d.parameters.length) = some 1 := ⟨(gtb_of (List.mem_append_right _ (List.mem_of_getElem? (i := 1129) (by decide +kernel))) rfl), cz_Main, cx_Main.1, cx_Main.2, by decide +kernel⟩
set_option maxRecDepth 100000 in
theorem mi_Main_count : Cond.instanceMethod y_Main_count.1 ∈ gtb := (gtb_of (List.mem_append_right _ (List.mem_of_getElem? (i := 1127) (by decide +kernel))) rfl)
set_option maxRecDepth 100000 in
theorem mv_Main_count : Cond.selects y_Main_count.1.cls y_Main_count.1 y_Main_count.1 ∈ gtb := (gtb_of (List.mem_append_right _ (List.mem_of_getElem? (i := 1128) (by decide +kernel))) rfl)
set_option maxRecDepth 100000 in
theorem mo_Law0_145 : mOk R_law 145 1 y_Main_count := ⟨Or.inl (gtb_of (List.mem_append_right _ (List.mem_of_getElem? (i := 1126) (by decide +kernel))) rfl), mk_Main_count⟩
set_option maxRecDepth 100000 in
theorem mk_Mod_count : Cond.code y_Mod_count.1 y_Mod_count.2.1 y_Mod_count.2.2.1 y_Mod_count.2.2.2.1 ∈ gtb ∧ Cond.initialized y_Mod_count.1.cls ∈ gtb ∧ y_Mod_count.1.cls ≠ "java/lang/invoke/MethodHandle" ∧ y_Mod_count.1.cls ≠ "java/lang/invoke/VarHandle" ∧ (parseMethodDescriptor y_Mod_count.1.desc).map (fun d => d.parameters.length) = some 1 := ⟨(gtb_of (List.mem_append_right _ (List.mem_of_getElem? (i := 1759) (by decide +kernel))) rfl), cz_Mod, cx_Mod.1, cx_Mod.2, by decide +kernel⟩
set_option maxRecDepth 100000 in
theorem mi_Mod_count : Cond.instanceMethod y_Mod_count.1 ∈ gtb := (gtb_of (List.mem_append_right _ (List.mem_of_getElem? (i := 1757) (by decide +kernel))) rfl)
set_option maxRecDepth 100000 in
theorem mv_Mod_count : Cond.selects y_Mod_count.1.cls y_Mod_count.1 y_Mod_count.1 ∈ gtb := (gtb_of (List.mem_append_right _ (List.mem_of_getElem? (i := 1758) (by decide +kernel))) rfl)
set_option maxRecDepth 100000 in
theorem mo_Law0_148 : mOk R_law 148 1 y_Mod_count := ⟨Or.inl (gtb_of (List.mem_append_right _ (List.mem_of_getElem? (i := 1756) (by decide +kernel))) rfl), mk_Mod_count⟩
theorem d_law_0 : decode code 0 = .ok (.new 7, 3) := by decide +kernel
theorem d_law_3 : decode code 3 = .ok (.dup, 1) := by decide +kernel
theorem d_law_4 : decode code 4 = .ok (.invokespecial 9, 3) := by decide +kernel
theorem d_law_7 : decode code 7 = .ok (.astore_n 1, 1) := by decide +kernel
theorem d_law_8 : decode code 8 = .ok (.new 10, 3) := by decide +kernel
theorem d_law_11 : decode code 11 = .ok (.dup, 1) := by decide +kernel
theorem d_law_12 : decode code 12 = .ok (.invokespecial 12, 3) := by decide +kernel
theorem d_law_15 : decode code 15 = .ok (.astore_n 2, 1) := by decide +kernel
theorem d_law_16 : decode code 16 = .ok (.iconst 0, 1) := by decide +kernel
theorem d_law_17 : decode code 17 = .ok (.istore_n 3, 1) := by decide +kernel
theorem d_law_18 : decode code 18 = .ok (.iload_n 3, 1) := by decide +kernel
theorem d_law_19 : decode code 19 = .ok (.aload_n 0, 1) := by decide +kernel
theorem d_law_20 : decode code 20 = .ok (.arraylength, 1) := by decide +kernel
theorem d_law_21 : decode code 21 = .ok (.bipush 6, 2) := by decide +kernel
theorem d_law_23 : decode code 23 = .ok (.isub, 1) := by decide +kernel
theorem d_law_24 : decode code 24 = .ok (.if_icmp .gt 1124, 3) := by decide +kernel
theorem d_law_27 : decode code 27 = .ok (.aload_n 0, 1) := by decide +kernel
theorem d_law_28 : decode code 28 = .ok (.iload_n 3, 1) := by decide +kernel
theorem d_law_29 : decode code 29 = .ok (.iaload, 1) := by decide +kernel
theorem d_law_30 : decode code 30 = .ok (.bipush 31, 2) := by decide +kernel
theorem d_law_32 : decode code 32 = .ok (.iand, 1) := by decide +kernel
theorem d_law_33 : decode code 33 = .ok (.tableswitch 1109 0 31 #[143, 206, 229, 242, 255, 288, 321, 354, 387, 420, 443, 466, 489, 502, 555, 588, 621, 634, 677, 730, 753, 786, 819, 862, 915, 958, 971, 994, 1017, 1040, 1063, 1086], 143) := by decide +kernel
theorem d_law_176 : decode code 176 = .ok (.aload_n 1, 1) := by decide +kernel
theorem d_law_177 : decode code 177 = .ok (.aload_n 0, 1) := by decide +kernel
theorem d_law_178 : decode code 178 = .ok (.iload_n 3, 1) := by decide +kernel
theorem d_law_179 : decode code 179 = .ok (.iconst 1, 1) := by decide +kernel
theorem d_law_180 : decode code 180 = .ok (.iadd, 1) := by decide +kernel
theorem d_law_181 : decode code 181 = .ok (.iaload, 1) := by decide +kernel
theorem d_law_182 : decode code 182 = .ok (.aload_n 0, 1) := by decide +kernel
theorem d_law_183 : decode code 183 = .ok (.iload_n 3, 1) := by decide +kernel
theorem d_law_184 : decode code 184 = .ok (.iconst 2, 1) := by decide +kernel
theorem d_law_185 : decode code 185 = .ok (.iadd, 1) := by decide +kernel
theorem d_law_186 : decode code 186 = .ok (.iaload, 1) := by decide +kernel
theorem d_law_187 : decode code 187 = .ok (.aload_n 0, 1) := by decide +kernel
theorem d_law_188 : decode code 188 = .ok (.iload_n 3, 1) := by decide +kernel
theorem d_law_189 : decode code 189 = .ok (.iconst 3, 1) := by decide +kernel
theorem d_law_190 : decode code 190 = .ok (.iadd, 1) := by decide +kernel
theorem d_law_191 : decode code 191 = .ok (.iaload, 1) := by decide +kernel
theorem d_law_192 : decode code 192 = .ok (.aload_n 0, 1) := by decide +kernel
theorem d_law_193 : decode code 193 = .ok (.iload_n 3, 1) := by decide +kernel
theorem d_law_194 : decode code 194 = .ok (.iconst 4, 1) := by decide +kernel
theorem d_law_195 : decode code 195 = .ok (.iadd, 1) := by decide +kernel
theorem d_law_196 : decode code 196 = .ok (.iaload, 1) := by decide +kernel
theorem d_law_197 : decode code 197 = .ok (.aload_n 0, 1) := by decide +kernel
theorem d_law_198 : decode code 198 = .ok (.iload_n 3, 1) := by decide +kernel
theorem d_law_199 : decode code 199 = .ok (.iconst 5, 1) := by decide +kernel
theorem d_law_200 : decode code 200 = .ok (.iadd, 1) := by decide +kernel
theorem d_law_201 : decode code 201 = .ok (.iaload, 1) := by decide +kernel
theorem d_law_202 : decode code 202 = .ok (.invokevirtual 13, 3) := by decide +kernel
theorem d_law_205 : decode code 205 = .ok (.pop, 1) := by decide +kernel
theorem d_law_206 : decode code 206 = .ok (.aload_n 2, 1) := by decide +kernel
theorem d_law_207 : decode code 207 = .ok (.aload_n 0, 1) := by decide +kernel
theorem d_law_208 : decode code 208 = .ok (.iload_n 3, 1) := by decide +kernel
theorem d_law_209 : decode code 209 = .ok (.iconst 1, 1) := by decide +kernel
theorem d_law_210 : decode code 210 = .ok (.iadd, 1) := by decide +kernel
theorem d_law_211 : decode code 211 = .ok (.iaload, 1) := by decide +kernel
theorem d_law_212 : decode code 212 = .ok (.aload_n 0, 1) := by decide +kernel
theorem d_law_213 : decode code 213 = .ok (.iload_n 3, 1) := by decide +kernel
theorem d_law_214 : decode code 214 = .ok (.iconst 2, 1) := by decide +kernel
theorem d_law_215 : decode code 215 = .ok (.iadd, 1) := by decide +kernel
theorem d_law_216 : decode code 216 = .ok (.iaload, 1) := by decide +kernel
theorem d_law_217 : decode code 217 = .ok (.aload_n 0, 1) := by decide +kernel
theorem d_law_218 : decode code 218 = .ok (.iload_n 3, 1) := by decide +kernel
theorem d_law_219 : decode code 219 = .ok (.iconst 3, 1) := by decide +kernel
theorem d_law_220 : decode code 220 = .ok (.iadd, 1) := by decide +kernel
theorem d_law_221 : decode code 221 = .ok (.iaload, 1) := by decide +kernel
theorem d_law_222 : decode code 222 = .ok (.aload_n 0, 1) := by decide +kernel
theorem d_law_223 : decode code 223 = .ok (.iload_n 3, 1) := by decide +kernel
theorem d_law_224 : decode code 224 = .ok (.iconst 4, 1) := by decide +kernel
theorem d_law_225 : decode code 225 = .ok (.iadd, 1) := by decide +kernel
theorem d_law_226 : decode code 226 = .ok (.iaload, 1) := by decide +kernel
theorem d_law_227 : decode code 227 = .ok (.aload_n 0, 1) := by decide +kernel
theorem d_law_228 : decode code 228 = .ok (.iload_n 3, 1) := by decide +kernel
theorem d_law_229 : decode code 229 = .ok (.iconst 5, 1) := by decide +kernel
theorem d_law_230 : decode code 230 = .ok (.iadd, 1) := by decide +kernel
theorem d_law_231 : decode code 231 = .ok (.iaload, 1) := by decide +kernel
theorem d_law_232 : decode code 232 = .ok (.invokevirtual 17, 3) := by decide +kernel
theorem d_law_235 : decode code 235 = .ok (.pop, 1) := by decide +kernel
theorem d_law_236 : decode code 236 = .ok (.goto 906, 3) := by decide +kernel
theorem d_law_239 : decode code 239 = .ok (.aload_n 1, 1) := by decide +kernel
theorem d_law_240 : decode code 240 = .ok (.aload_n 0, 1) := by decide +kernel
theorem d_law_241 : decode code 241 = .ok (.iload_n 3, 1) := by decide +kernel
theorem d_law_242 : decode code 242 = .ok (.iconst 1, 1) := by decide +kernel
theorem d_law_243 : decode code 243 = .ok (.iadd, 1) := by decide +kernel
theorem d_law_244 : decode code 244 = .ok (.iaload, 1) := by decide +kernel
theorem d_law_245 : decode code 245 = .ok (.invokevirtual 18, 3) := by decide +kernel
theorem d_law_248 : decode code 248 = .ok (.pop, 1) := by decide +kernel
theorem d_law_249 : decode code 249 = .ok (.aload_n 2, 1) := by decide +kernel
theorem d_law_250 : decode code 250 = .ok (.aload_n 0, 1) := by decide +kernel
theorem d_law_251 : decode code 251 = .ok (.iload_n 3, 1) := by decide +kernel
theorem d_law_252 : decode code 252 = .ok (.iconst 1, 1) := by decide +kernel
theorem d_law_253 : decode code 253 = .ok (.iadd, 1) := by decide +kernel
theorem d_law_254 : decode code 254 = .ok (.iaload, 1) := by decide +kernel
theorem d_law_255 : decode code 255 = .ok (.invokevirtual 22, 3) := by decide +kernel
theorem d_law_258 : decode code 258 = .ok (.pop, 1) := by decide +kernel
theorem d_law_259 : decode code 259 = .ok (.goto 883, 3) := by decide +kernel
theorem d_law_262 : decode code 262 = .ok (.aload_n 1, 1) := by decide +kernel
theorem d_law_263 : decode code 263 = .ok (.invokevirtual 23, 3) := by decide +kernel
theorem d_law_266 : decode code 266 = .ok (.pop, 1) := by decide +kernel
theorem d_law_267 : decode code 267 = .ok (.aload_n 2, 1) := by decide +kernel
theorem d_law_268 : decode code 268 = .ok (.invokevirtual 27, 3) := by decide +kernel
theorem d_law_271 : decode code 271 = .ok (.pop, 1) := by decide +kernel
theorem d_law_272 : decode code 272 = .ok (.goto 870, 3) := by decide +kernel
theorem d_law_275 : decode code 275 = .ok (.aload_n 1, 1) := by decide +kernel
theorem d_law_276 : decode code 276 = .ok (.invokevirtual 28, 3) := by decide +kernel
theorem d_law_279 : decode code 279 = .ok (.pop, 1) := by decide +kernel
theorem d_law_280 : decode code 280 = .ok (.aload_n 2, 1) := by decide +kernel
theorem d_law_281 : decode code 281 = .ok (.invokevirtual 31, 3) := by decide +kernel
theorem d_law_284 : decode code 284 = .ok (.pop, 1) := by decide +kernel
theorem d_law_285 : decode code 285 = .ok (.goto 857, 3) := by decide +kernel
theorem d_law_288 : decode code 288 = .ok (.aload_n 1, 1) := by decide +kernel
theorem d_law_289 : decode code 289 = .ok (.aload_n 0, 1) := by decide +kernel
theorem d_law_290 : decode code 290 = .ok (.iload_n 3, 1) := by decide +kernel
theorem d_law_291 : decode code 291 = .ok (.iconst 1, 1) := by decide +kernel
theorem d_law_292 : decode code 292 = .ok (.iadd, 1) := by decide +kernel
theorem d_law_293 : decode code 293 = .ok (.iaload, 1) := by decide +kernel
theorem d_law_294 : decode code 294 = .ok (.aload_n 0, 1) := by decide +kernel
theorem d_law_295 : decode code 295 = .ok (.iload_n 3, 1) := by decide +kernel
theorem d_law_296 : decode code 296 = .ok (.iconst 2, 1) := by decide +kernel
theorem d_law_297 : decode code 297 = .ok (.iadd, 1) := by decide +kernel
theorem d_law_298 : decode code 298 = .ok (.iaload, 1) := by decide +kernel
theorem d_law_299 : decode code 299 = .ok (.invokevirtual 32, 3) := by decide +kernel
theorem d_law_302 : decode code 302 = .ok (.pop, 1) := by decide +kernel
theorem d_law_303 : decode code 303 = .ok (.aload_n 2, 1) := by decide +kernel
theorem d_law_304 : decode code 304 = .ok (.aload_n 0, 1) := by decide +kernel
theorem d_law_305 : decode code 305 = .ok (.iload_n 3, 1) := by decide +kernel
theorem d_law_306 : decode code 306 = .ok (.iconst 1, 1) := by decide +kernel
theorem d_law_307 : decode code 307 = .ok (.iadd, 1) := by decide +kernel
theorem d_law_308 : decode code 308 = .ok (.iaload, 1) := by decide +kernel
theorem d_law_309 : decode code 309 = .ok (.aload_n 0, 1) := by decide +kernel
theorem d_law_310 : decode code 310 = .ok (.iload_n 3, 1) := by decide +kernel
theorem d_law_311 : decode code 311 = .ok (.iconst 2, 1) := by decide +kernel
theorem d_law_312 : decode code 312 = .ok (.iadd, 1) := by decide +kernel
theorem d_law_313 : decode code 313 = .ok (.iaload, 1) := by decide +kernel
theorem d_law_314 : decode code 314 = .ok (.invokevirtual 36, 3) := by decide +kernel
theorem d_law_317 : decode code 317 = .ok (.pop, 1) := by decide +kernel
theorem d_law_318 : decode code 318 = .ok (.goto 824, 3) := by decide +kernel
theorem d_law_321 : decode code 321 = .ok (.aload_n 1, 1) := by decide +kernel
theorem d_law_322 : decode code 322 = .ok (.aload_n 0, 1) := by decide +kernel
theorem d_law_323 : decode code 323 = .ok (.iload_n 3, 1) := by decide +kernel
theorem d_law_324 : decode code 324 = .ok (.iconst 1, 1) := by decide +kernel
theorem d_law_325 : decode code 325 = .ok (.iadd, 1) := by decide +kernel
theorem d_law_326 : decode code 326 = .ok (.iaload, 1) := by decide +kernel
theorem d_law_327 : decode code 327 = .ok (.aload_n 0, 1) := by decide +kernel
theorem d_law_328 : decode code 328 = .ok (.iload_n 3, 1) := by decide +kernel
theorem d_law_329 : decode code 329 = .ok (.iconst 2, 1) := by decide +kernel
theorem d_law_330 : decode code 330 = .ok (.iadd, 1) := by decide +kernel
theorem d_law_331 : decode code 331 = .ok (.iaload, 1) := by decide +kernel
theorem d_law_332 : decode code 332 = .ok (.invokevirtual 37, 3) := by decide +kernel
theorem d_law_335 : decode code 335 = .ok (.pop, 1) := by decide +kernel
theorem d_law_336 : decode code 336 = .ok (.aload_n 2, 1) := by decide +kernel
theorem d_law_337 : decode code 337 = .ok (.aload_n 0, 1) := by decide +kernel
theorem d_law_338 : decode code 338 = .ok (.iload_n 3, 1) := by decide +kernel
theorem d_law_339 : decode code 339 = .ok (.iconst 1, 1) := by decide +kernel
theorem d_law_340 : decode code 340 = .ok (.iadd, 1) := by decide +kernel
theorem d_law_341 : decode code 341 = .ok (.iaload, 1) := by decide +kernel
theorem d_law_342 : decode code 342 = .ok (.aload_n 0, 1) := by decide +kernel
theorem d_law_343 : decode code 343 = .ok (.iload_n 3, 1) := by decide +kernel
theorem d_law_344 : decode code 344 = .ok (.iconst 2, 1) := by decide +kernel
theorem d_law_345 : decode code 345 = .ok (.iadd, 1) := by decide +kernel
theorem d_law_346 : decode code 346 = .ok (.iaload, 1) := by decide +kernel
theorem d_law_347 : decode code 347 = .ok (.invokevirtual 40, 3) := by decide +kernel
theorem d_law_350 : decode code 350 = .ok (.pop, 1) := by decide +kernel
theorem d_law_351 : decode code 351 = .ok (.goto 791, 3) := by decide +kernel
theorem d_law_354 : decode code 354 = .ok (.aload_n 1, 1) := by decide +kernel
theorem d_law_355 : decode code 355 = .ok (.aload_n 0, 1) := by decide +kernel
theorem d_law_356 : decode code 356 = .ok (.iload_n 3, 1) := by decide +kernel
theorem d_law_357 : decode code 357 = .ok (.iconst 1, 1) := by decide +kernel
theorem d_law_358 : decode code 358 = .ok (.iadd, 1) := by decide +kernel
theorem d_law_359 : decode code 359 = .ok (.iaload, 1) := by decide +kernel
theorem d_law_360 : decode code 360 = .ok (.aload_n 0, 1) := by decide +kernel
theorem d_law_361 : decode code 361 = .ok (.iload_n 3, 1) := by decide +kernel
theorem d_law_362 : decode code 362 = .ok (.iconst 2, 1) := by decide +kernel
theorem d_law_363 : decode code 363 = .ok (.iadd, 1) := by decide +kernel
theorem d_law_364 : decode code 364 = .ok (.iaload, 1) := by decide +kernel
theorem d_law_365 : decode code 365 = .ok (.invokevirtual 41, 3) := by decide +kernel
theorem d_law_368 : decode code 368 = .ok (.pop, 1) := by decide +kernel
theorem d_law_369 : decode code 369 = .ok (.aload_n 2, 1) := by decide +kernel
theorem d_law_370 : decode code 370 = .ok (.aload_n 0, 1) := by decide +kernel
theorem d_law_371 : decode code 371 = .ok (.iload_n 3, 1) := by decide +kernel
theorem d_law_372 : decode code 372 = .ok (.iconst 1, 1) := by decide +kernel
theorem d_law_373 : decode code 373 = .ok (.iadd, 1) := by decide +kernel
theorem d_law_374 : decode code 374 = .ok (.iaload, 1) := by decide +kernel
theorem d_law_375 : decode code 375 = .ok (.aload_n 0, 1) := by decide +kernel
theorem d_law_376 : decode code 376 = .ok (.iload_n 3, 1) := by decide +kernel
theorem d_law_377 : decode code 377 = .ok (.iconst 2, 1) := by decide +kernel
theorem d_law_378 : decode code 378 = .ok (.iadd, 1) := by decide +kernel
theorem d_law_379 : decode code 379 = .ok (.iaload, 1) := by decide +kernel
theorem d_law_380 : decode code 380 = .ok (.invokevirtual 44, 3) := by decide +kernel
theorem d_law_383 : decode code 383 = .ok (.pop, 1) := by decide +kernel
theorem d_law_384 : decode code 384 = .ok (.goto 758, 3) := by decide +kernel
theorem d_law_387 : decode code 387 = .ok (.aload_n 1, 1) := by decide +kernel
theorem d_law_388 : decode code 388 = .ok (.aload_n 0, 1) := by decide +kernel
theorem d_law_389 : decode code 389 = .ok (.iload_n 3, 1) := by decide +kernel
theorem d_law_390 : decode code 390 = .ok (.iconst 1, 1) := by decide +kernel
theorem d_law_391 : decode code 391 = .ok (.iadd, 1) := by decide +kernel
theorem d_law_392 : decode code 392 = .ok (.iaload, 1) := by decide +kernel
theorem d_law_393 : decode code 393 = .ok (.aload_n 0, 1) := by decide +kernel
theorem d_law_394 : decode code 394 = .ok (.iload_n 3, 1) := by decide +kernel
theorem d_law_395 : decode code 395 = .ok (.iconst 2, 1) := by decide +kernel
theorem d_law_396 : decode code 396 = .ok (.iadd, 1) := by decide +kernel
theorem d_law_397 : decode code 397 = .ok (.iaload, 1) := by decide +kernel
theorem d_law_398 : decode code 398 = .ok (.invokevirtual 45, 3) := by decide +kernel
theorem d_law_401 : decode code 401 = .ok (.pop, 1) := by decide +kernel
theorem d_law_402 : decode code 402 = .ok (.aload_n 2, 1) := by decide +kernel
theorem d_law_403 : decode code 403 = .ok (.aload_n 0, 1) := by decide +kernel
theorem d_law_404 : decode code 404 = .ok (.iload_n 3, 1) := by decide +kernel
theorem d_law_405 : decode code 405 = .ok (.iconst 1, 1) := by decide +kernel
theorem d_law_406 : decode code 406 = .ok (.iadd, 1) := by decide +kernel
theorem d_law_407 : decode code 407 = .ok (.iaload, 1) := by decide +kernel
theorem d_law_408 : decode code 408 = .ok (.aload_n 0, 1) := by decide +kernel
theorem d_law_409 : decode code 409 = .ok (.iload_n 3, 1) := by decide +kernel
theorem d_law_410 : decode code 410 = .ok (.iconst 2, 1) := by decide +kernel
theorem d_law_411 : decode code 411 = .ok (.iadd, 1) := by decide +kernel
theorem d_law_412 : decode code 412 = .ok (.iaload, 1) := by decide +kernel
theorem d_law_413 : decode code 413 = .ok (.invokevirtual 48, 3) := by decide +kernel
theorem d_law_416 : decode code 416 = .ok (.pop, 1) := by decide +kernel
theorem d_law_417 : decode code 417 = .ok (.goto 725, 3) := by decide +kernel
theorem d_law_420 : decode code 420 = .ok (.aload_n 1, 1) := by decide +kernel
theorem d_law_421 : decode code 421 = .ok (.aload_n 0, 1) := by decide +kernel
theorem d_law_422 : decode code 422 = .ok (.iload_n 3, 1) := by decide +kernel
theorem d_law_423 : decode code 423 = .ok (.iconst 1, 1) := by decide +kernel
theorem d_law_424 : decode code 424 = .ok (.iadd, 1) := by decide +kernel
theorem d_law_425 : decode code 425 = .ok (.iaload, 1) := by decide +kernel
theorem d_law_426 : decode code 426 = .ok (.aload_n 0, 1) := by decide +kernel
theorem d_law_427 : decode code 427 = .ok (.iload_n 3, 1) := by decide +kernel
theorem d_law_428 : decode code 428 = .ok (.iconst 2, 1) := by decide +kernel
theorem d_law_429 : decode code 429 = .ok (.iadd, 1) := by decide +kernel
theorem d_law_430 : decode code 430 = .ok (.iaload, 1) := by decide +kernel
theorem d_law_431 : decode code 431 = .ok (.invokevirtual 49, 3) := by decide +kernel
theorem d_law_434 : decode code 434 = .ok (.pop, 1) := by decide +kernel
theorem d_law_435 : decode code 435 = .ok (.aload_n 2, 1) := by decide +kernel
theorem d_law_436 : decode code 436 = .ok (.aload_n 0, 1) := by decide +kernel
theorem d_law_437 : decode code 437 = .ok (.iload_n 3, 1) := by decide +kernel
theorem d_law_438 : decode code 438 = .ok (.iconst 1, 1) := by decide +kernel
theorem d_law_439 : decode code 439 = .ok (.iadd, 1) := by decide +kernel
theorem d_law_440 : decode code 440 = .ok (.iaload, 1) := by decide +kernel
theorem d_law_441 : decode code 441 = .ok (.aload_n 0, 1) := by decide +kernel
theorem d_law_442 : decode code 442 = .ok (.iload_n 3, 1) := by decide +kernel
theorem d_law_443 : decode code 443 = .ok (.iconst 2, 1) := by decide +kernel
theorem d_law_444 : decode code 444 = .ok (.iadd, 1) := by decide +kernel
theorem d_law_445 : decode code 445 = .ok (.iaload, 1) := by decide +kernel
theorem d_law_446 : decode code 446 = .ok (.invokevirtual 52, 3) := by decide +kernel
theorem d_law_449 : decode code 449 = .ok (.pop, 1) := by decide +kernel
theorem d_law_450 : decode code 450 = .ok (.goto 692, 3) := by decide +kernel
theorem d_law_453 : decode code 453 = .ok (.aload_n 1, 1) := by decide +kernel
theorem d_law_454 : decode code 454 = .ok (.aload_n 0, 1) := by decide +kernel
theorem d_law_455 : decode code 455 = .ok (.iload_n 3, 1) := by decide +kernel
theorem d_law_456 : decode code 456 = .ok (.iconst 1, 1) := by decide +kernel
theorem d_law_457 : decode code 457 = .ok (.iadd, 1) := by decide +kernel
theorem d_law_458 : decode code 458 = .ok (.iaload, 1) := by decide +kernel
theorem d_law_459 : decode code 459 = .ok (.invokevirtual 53, 3) := by decide +kernel
theorem d_law_462 : decode code 462 = .ok (.pop, 1) := by decide +kernel
theorem d_law_463 : decode code 463 = .ok (.aload_n 2, 1) := by decide +kernel
theorem d_law_464 : decode code 464 = .ok (.aload_n 0, 1) := by decide +kernel
theorem d_law_465 : decode code 465 = .ok (.iload_n 3, 1) := by decide +kernel
theorem d_law_466 : decode code 466 = .ok (.iconst 1, 1) := by decide +kernel
theorem d_law_467 : decode code 467 = .ok (.iadd, 1) := by decide +kernel
theorem d_law_468 : decode code 468 = .ok (.iaload, 1) := by decide +kernel
theorem d_law_469 : decode code 469 = .ok (.invokevirtual 56, 3) := by decide +kernel
theorem d_law_472 : decode code 472 = .ok (.pop, 1) := by decide +kernel
theorem d_law_473 : decode code 473 = .ok (.goto 669, 3) := by decide +kernel
theorem d_law_476 : decode code 476 = .ok (.aload_n 1, 1) := by decide +kernel
theorem d_law_477 : decode code 477 = .ok (.aload_n 0, 1) := by decide +kernel
theorem d_law_478 : decode code 478 = .ok (.iload_n 3, 1) := by decide +kernel
theorem d_law_479 : decode code 479 = .ok (.iconst 1, 1) := by decide +kernel
theorem d_law_480 : decode code 480 = .ok (.iadd, 1) := by decide +kernel
theorem d_law_481 : decode code 481 = .ok (.iaload, 1) := by decide +kernel
theorem d_law_482 : decode code 482 = .ok (.invokevirtual 57, 3) := by decide +kernel
theorem d_law_485 : decode code 485 = .ok (.pop, 1) := by decide +kernel
theorem d_law_486 : decode code 486 = .ok (.aload_n 2, 1) := by decide +kernel
theorem d_law_487 : decode code 487 = .ok (.aload_n 0, 1) := by decide +kernel
theorem d_law_488 : decode code 488 = .ok (.iload_n 3, 1) := by decide +kernel
theorem d_law_489 : decode code 489 = .ok (.iconst 1, 1) := by decide +kernel
theorem d_law_490 : decode code 490 = .ok (.iadd, 1) := by decide +kernel
theorem d_law_491 : decode code 491 = .ok (.iaload, 1) := by decide +kernel
theorem d_law_492 : decode code 492 = .ok (.invokevirtual 60, 3) := by decide +kernel
theorem d_law_495 : decode code 495 = .ok (.pop, 1) := by decide +kernel
theorem d_law_496 : decode code 496 = .ok (.goto 646, 3) := by decide +kernel
theorem d_law_499 : decode code 499 = .ok (.aload_n 1, 1) := by decide +kernel
theorem d_law_500 : decode code 500 = .ok (.aload_n 0, 1) := by decide +kernel
theorem d_law_501 : decode code 501 = .ok (.iload_n 3, 1) := by decide +kernel
theorem d_law_502 : decode code 502 = .ok (.iconst 1, 1) := by decide +kernel
theorem d_law_503 : decode code 503 = .ok (.iadd, 1) := by decide +kernel
theorem d_law_504 : decode code 504 = .ok (.iaload, 1) := by decide +kernel
theorem d_law_505 : decode code 505 = .ok (.invokevirtual 61, 3) := by decide +kernel
theorem d_law_508 : decode code 508 = .ok (.pop, 1) := by decide +kernel
theorem d_law_509 : decode code 509 = .ok (.aload_n 2, 1) := by decide +kernel
theorem d_law_510 : decode code 510 = .ok (.aload_n 0, 1) := by decide +kernel
theorem d_law_511 : decode code 511 = .ok (.iload_n 3, 1) := by decide +kernel
theorem d_law_512 : decode code 512 = .ok (.iconst 1, 1) := by decide +kernel
theorem d_law_513 : decode code 513 = .ok (.iadd, 1) := by decide +kernel
theorem d_law_514 : decode code 514 = .ok (.iaload, 1) := by decide +kernel
theorem d_law_515 : decode code 515 = .ok (.invokevirtual 64, 3) := by decide +kernel
theorem d_law_518 : decode code 518 = .ok (.pop, 1) := by decide +kernel
theorem d_law_519 : decode code 519 = .ok (.goto 623, 3) := by decide +kernel
theorem d_law_522 : decode code 522 = .ok (.aload_n 1, 1) := by decide +kernel
theorem d_law_523 : decode code 523 = .ok (.invokevirtual 65, 3) := by decide +kernel
theorem d_law_526 : decode code 526 = .ok (.pop, 1) := by decide +kernel
theorem d_law_527 : decode code 527 = .ok (.aload_n 2, 1) := by decide +kernel
theorem d_law_528 : decode code 528 = .ok (.invokevirtual 69, 3) := by decide +kernel
theorem d_law_531 : decode code 531 = .ok (.pop, 1) := by decide +kernel
theorem d_law_532 : decode code 532 = .ok (.goto 610, 3) := by decide +kernel
theorem d_law_535 : decode code 535 = .ok (.aload_n 1, 1) := by decide +kernel
theorem d_law_536 : decode code 536 = .ok (.aload_n 0, 1) := by decide +kernel
theorem d_law_537 : decode code 537 = .ok (.iload_n 3, 1) := by decide +kernel
theorem d_law_538 : decode code 538 = .ok (.iconst 1, 1) := by decide +kernel
theorem d_law_539 : decode code 539 = .ok (.iadd, 1) := by decide +kernel
theorem d_law_540 : decode code 540 = .ok (.iaload, 1) := by decide +kernel
theorem d_law_541 : decode code 541 = .ok (.aload_n 0, 1) := by decide +kernel
theorem d_law_542 : decode code 542 = .ok (.iload_n 3, 1) := by decide +kernel
theorem d_law_543 : decode code 543 = .ok (.iconst 2, 1) := by decide +kernel
theorem d_law_544 : decode code 544 = .ok (.iadd, 1) := by decide +kernel
theorem d_law_545 : decode code 545 = .ok (.iaload, 1) := by decide +kernel
theorem d_law_546 : decode code 546 = .ok (.aload_n 0, 1) := by decide +kernel
theorem d_law_547 : decode code 547 = .ok (.iload_n 3, 1) := by decide +kernel
theorem d_law_548 : decode code 548 = .ok (.iconst 3, 1) := by decide +kernel
theorem d_law_549 : decode code 549 = .ok (.iadd, 1) := by decide +kernel
theorem d_law_550 : decode code 550 = .ok (.iaload, 1) := by decide +kernel
theorem d_law_551 : decode code 551 = .ok (.aload_n 0, 1) := by decide +kernel
theorem d_law_552 : decode code 552 = .ok (.iload_n 3, 1) := by decide +kernel
theorem d_law_553 : decode code 553 = .ok (.iconst 4, 1) := by decide +kernel
theorem d_law_554 : decode code 554 = .ok (.iadd, 1) := by decide +kernel
theorem d_law_555 : decode code 555 = .ok (.iaload, 1) := by decide +kernel
theorem d_law_556 : decode code 556 = .ok (.invokevirtual 70, 3) := by decide +kernel
theorem d_law_559 : decode code 559 = .ok (.pop, 1) := by decide +kernel
theorem d_law_560 : decode code 560 = .ok (.aload_n 2, 1) := by decide +kernel
theorem d_law_561 : decode code 561 = .ok (.aload_n 0, 1) := by decide +kernel
theorem d_law_562 : decode code 562 = .ok (.iload_n 3, 1) := by decide +kernel
theorem d_law_563 : decode code 563 = .ok (.iconst 1, 1) := by decide +kernel
theorem d_law_564 : decode code 564 = .ok (.iadd, 1) := by decide +kernel
theorem d_law_565 : decode code 565 = .ok (.iaload, 1) := by decide +kernel
theorem d_law_566 : decode code 566 = .ok (.aload_n 0, 1) := by decide +kernel
theorem d_law_567 : decode code 567 = .ok (.iload_n 3, 1) := by decide +kernel
theorem d_law_568 : decode code 568 = .ok (.iconst 2, 1) := by decide +kernel
theorem d_law_569 : decode code 569 = .ok (.iadd, 1) := by decide +kernel
theorem d_law_570 : decode code 570 = .ok (.iaload, 1) := by decide +kernel
theorem d_law_571 : decode code 571 = .ok (.aload_n 0, 1) := by decide +kernel
theorem d_law_572 : decode code 572 = .ok (.iload_n 3, 1) := by decide +kernel
theorem d_law_573 : decode code 573 = .ok (.iconst 3, 1) := by decide +kernel
theorem d_law_574 : decode code 574 = .ok (.iadd, 1) := by decide +kernel
theorem d_law_575 : decode code 575 = .ok (.iaload, 1) := by decide +kernel
theorem d_law_576 : decode code 576 = .ok (.aload_n 0, 1) := by decide +kernel
theorem d_law_577 : decode code 577 = .ok (.iload_n 3, 1) := by decide +kernel
theorem d_law_578 : decode code 578 = .ok (.iconst 4, 1) := by decide +kernel
theorem d_law_579 : decode code 579 = .ok (.iadd, 1) := by decide +kernel
theorem d_law_580 : decode code 580 = .ok (.iaload, 1) := by decide +kernel
theorem d_law_581 : decode code 581 = .ok (.invokevirtual 74, 3) := by decide +kernel
theorem d_law_584 : decode code 584 = .ok (.pop, 1) := by decide +kernel
theorem d_law_585 : decode code 585 = .ok (.goto 557, 3) := by decide +kernel
theorem d_law_588 : decode code 588 = .ok (.aload_n 1, 1) := by decide +kernel
theorem d_law_589 : decode code 589 = .ok (.aload_n 0, 1) := by decide +kernel
theorem d_law_590 : decode code 590 = .ok (.iload_n 3, 1) := by decide +kernel
theorem d_law_591 : decode code 591 = .ok (.iconst 1, 1) := by decide +kernel
theorem d_law_592 : decode code 592 = .ok (.iadd, 1) := by decide +kernel
theorem d_law_593 : decode code 593 = .ok (.iaload, 1) := by decide +kernel
theorem d_law_594 : decode code 594 = .ok (.aload_n 0, 1) := by decide +kernel
theorem d_law_595 : decode code 595 = .ok (.iload_n 3, 1) := by decide +kernel
theorem d_law_596 : decode code 596 = .ok (.iconst 2, 1) := by decide +kernel
theorem d_law_597 : decode code 597 = .ok (.iadd, 1) := by decide +kernel
theorem d_law_598 : decode code 598 = .ok (.iaload, 1) := by decide +kernel
theorem d_law_599 : decode code 599 = .ok (.invokevirtual 75, 3) := by decide +kernel
theorem d_law_602 : decode code 602 = .ok (.pop, 1) := by decide +kernel
theorem d_law_603 : decode code 603 = .ok (.aload_n 2, 1) := by decide +kernel
theorem d_law_604 : decode code 604 = .ok (.aload_n 0, 1) := by decide +kernel
theorem d_law_605 : decode code 605 = .ok (.iload_n 3, 1) := by decide +kernel
theorem d_law_606 : decode code 606 = .ok (.iconst 1, 1) := by decide +kernel
theorem d_law_607 : decode code 607 = .ok (.iadd, 1) := by decide +kernel
theorem d_law_608 : decode code 608 = .ok (.iaload, 1) := by decide +kernel
theorem d_law_609 : decode code 609 = .ok (.aload_n 0, 1) := by decide +kernel
theorem d_law_610 : decode code 610 = .ok (.iload_n 3, 1) := by decide +kernel
theorem d_law_611 : decode code 611 = .ok (.iconst 2, 1) := by decide +kernel
theorem d_law_612 : decode code 612 = .ok (.iadd, 1) := by decide +kernel
theorem d_law_613 : decode code 613 = .ok (.iaload, 1) := by decide +kernel
theorem d_law_614 : decode code 614 = .ok (.invokevirtual 78, 3) := by decide +kernel
theorem d_law_617 : decode code 617 = .ok (.pop, 1) := by decide +kernel
theorem d_law_618 : decode code 618 = .ok (.goto 524, 3) := by decide +kernel
theorem d_law_621 : decode code 621 = .ok (.aload_n 1, 1) := by decide +kernel
theorem d_law_622 : decode code 622 = .ok (.aload_n 0, 1) := by decide +kernel
theorem d_law_623 : decode code 623 = .ok (.iload_n 3, 1) := by decide +kernel
theorem d_law_624 : decode code 624 = .ok (.iconst 1, 1) := by decide +kernel
theorem d_law_625 : decode code 625 = .ok (.iadd, 1) := by decide +kernel
theorem d_law_626 : decode code 626 = .ok (.iaload, 1) := by decide +kernel
theorem d_law_627 : decode code 627 = .ok (.aload_n 0, 1) := by decide +kernel
theorem d_law_628 : decode code 628 = .ok (.iload_n 3, 1) := by decide +kernel
theorem d_law_629 : decode code 629 = .ok (.iconst 2, 1) := by decide +kernel
theorem d_law_630 : decode code 630 = .ok (.iadd, 1) := by decide +kernel
theorem d_law_631 : decode code 631 = .ok (.iaload, 1) := by decide +kernel
theorem d_law_632 : decode code 632 = .ok (.invokevirtual 79, 3) := by decide +kernel
theorem d_law_635 : decode code 635 = .ok (.pop, 1) := by decide +kernel
theorem d_law_636 : decode code 636 = .ok (.aload_n 2, 1) := by decide +kernel
theorem d_law_637 : decode code 637 = .ok (.aload_n 0, 1) := by decide +kernel
theorem d_law_638 : decode code 638 = .ok (.iload_n 3, 1) := by decide +kernel
theorem d_law_639 : decode code 639 = .ok (.iconst 1, 1) := by decide +kernel
theorem d_law_640 : decode code 640 = .ok (.iadd, 1) := by decide +kernel
theorem d_law_641 : decode code 641 = .ok (.iaload, 1) := by decide +kernel
theorem d_law_642 : decode code 642 = .ok (.aload_n 0, 1) := by decide +kernel
theorem d_law_643 : decode code 643 = .ok (.iload_n 3, 1) := by decide +kernel
theorem d_law_644 : decode code 644 = .ok (.iconst 2, 1) := by decide +kernel
theorem d_law_645 : decode code 645 = .ok (.iadd, 1) := by decide +kernel
theorem d_law_646 : decode code 646 = .ok (.iaload, 1) := by decide +kernel
theorem d_law_647 : decode code 647 = .ok (.invokevirtual 82, 3) := by decide +kernel
theorem d_law_650 : decode code 650 = .ok (.pop, 1) := by decide +kernel
theorem d_law_651 : decode code 651 = .ok (.goto 491, 3) := by decide +kernel
theorem d_law_654 : decode code 654 = .ok (.aload_n 1, 1) := by decide +kernel
theorem d_law_655 : decode code 655 = .ok (.invokevirtual 83, 3) := by decide +kernel
theorem d_law_658 : decode code 658 = .ok (.pop, 1) := by decide +kernel
theorem d_law_659 : decode code 659 = .ok (.aload_n 2, 1) := by decide +kernel
theorem d_law_660 : decode code 660 = .ok (.invokevirtual 86, 3) := by decide +kernel
theorem d_law_663 : decode code 663 = .ok (.pop, 1) := by decide +kernel
theorem d_law_664 : decode code 664 = .ok (.goto 478, 3) := by decide +kernel
theorem d_law_667 : decode code 667 = .ok (.aload_n 1, 1) := by decide +kernel
theorem d_law_668 : decode code 668 = .ok (.aload_n 0, 1) := by decide +kernel
theorem d_law_669 : decode code 669 = .ok (.iload_n 3, 1) := by decide +kernel
theorem d_law_670 : decode code 670 = .ok (.iconst 1, 1) := by decide +kernel
theorem d_law_671 : decode code 671 = .ok (.iadd, 1) := by decide +kernel
theorem d_law_672 : decode code 672 = .ok (.iaload, 1) := by decide +kernel
theorem d_law_673 : decode code 673 = .ok (.aload_n 0, 1) := by decide +kernel
theorem d_law_674 : decode code 674 = .ok (.iload_n 3, 1) := by decide +kernel
theorem d_law_675 : decode code 675 = .ok (.iconst 2, 1) := by decide +kernel
theorem d_law_676 : decode code 676 = .ok (.iadd, 1) := by decide +kernel
theorem d_law_677 : decode code 677 = .ok (.iaload, 1) := by decide +kernel
theorem d_law_678 : decode code 678 = .ok (.aload_n 0, 1) := by decide +kernel
theorem d_law_679 : decode code 679 = .ok (.iload_n 3, 1) := by decide +kernel
theorem d_law_680 : decode code 680 = .ok (.iconst 3, 1) := by decide +kernel
theorem d_law_681 : decode code 681 = .ok (.iadd, 1) := by decide +kernel
theorem d_law_682 : decode code 682 = .ok (.iaload, 1) := by decide +kernel
theorem d_law_683 : decode code 683 = .ok (.invokevirtual 87, 3) := by decide +kernel
theorem d_law_686 : decode code 686 = .ok (.pop, 1) := by decide +kernel
theorem d_law_687 : decode code 687 = .ok (.aload_n 2, 1) := by decide +kernel
theorem d_law_688 : decode code 688 = .ok (.aload_n 0, 1) := by decide +kernel
theorem d_law_689 : decode code 689 = .ok (.iload_n 3, 1) := by decide +kernel
theorem d_law_690 : decode code 690 = .ok (.iconst 1, 1) := by decide +kernel
theorem d_law_691 : decode code 691 = .ok (.iadd, 1) := by decide +kernel
theorem d_law_692 : decode code 692 = .ok (.iaload, 1) := by decide +kernel
theorem d_law_693 : decode code 693 = .ok (.aload_n 0, 1) := by decide +kernel
theorem d_law_694 : decode code 694 = .ok (.iload_n 3, 1) := by decide +kernel
theorem d_law_695 : decode code 695 = .ok (.iconst 2, 1) := by decide +kernel
theorem d_law_696 : decode code 696 = .ok (.iadd, 1) := by decide +kernel
theorem d_law_697 : decode code 697 = .ok (.iaload, 1) := by decide +kernel
theorem d_law_698 : decode code 698 = .ok (.aload_n 0, 1) := by decide +kernel
theorem d_law_699 : decode code 699 = .ok (.iload_n 3, 1) := by decide +kernel
theorem d_law_700 : decode code 700 = .ok (.iconst 3, 1) := by decide +kernel
theorem d_law_701 : decode code 701 = .ok (.iadd, 1) := by decide +kernel
theorem d_law_702 : decode code 702 = .ok (.iaload, 1) := by decide +kernel
theorem d_law_703 : decode code 703 = .ok (.invokevirtual 91, 3) := by decide +kernel
theorem d_law_706 : decode code 706 = .ok (.pop, 1) := by decide +kernel
theorem d_law_707 : decode code 707 = .ok (.goto 435, 3) := by decide +kernel
theorem d_law_710 : decode code 710 = .ok (.aload_n 1, 1) := by decide +kernel
theorem d_law_711 : decode code 711 = .ok (.aload_n 0, 1) := by decide +kernel
theorem d_law_712 : decode code 712 = .ok (.iload_n 3, 1) := by decide +kernel
theorem d_law_713 : decode code 713 = .ok (.iconst 1, 1) := by decide +kernel
theorem d_law_714 : decode code 714 = .ok (.iadd, 1) := by decide +kernel
theorem d_law_715 : decode code 715 = .ok (.iaload, 1) := by decide +kernel
theorem d_law_716 : decode code 716 = .ok (.aload_n 0, 1) := by decide +kernel
theorem d_law_717 : decode code 717 = .ok (.iload_n 3, 1) := by decide +kernel
theorem d_law_718 : decode code 718 = .ok (.iconst 2, 1) := by decide +kernel
theorem d_law_719 : decode code 719 = .ok (.iadd, 1) := by decide +kernel
theorem d_law_720 : decode code 720 = .ok (.iaload, 1) := by decide +kernel
theorem d_law_721 : decode code 721 = .ok (.aload_n 0, 1) := by decide +kernel
theorem d_law_722 : decode code 722 = .ok (.iload_n 3, 1) := by decide +kernel
theorem d_law_723 : decode code 723 = .ok (.iconst 3, 1) := by decide +kernel
theorem d_law_724 : decode code 724 = .ok (.iadd, 1) := by decide +kernel
theorem d_law_725 : decode code 725 = .ok (.iaload, 1) := by decide +kernel
theorem d_law_726 : decode code 726 = .ok (.aload_n 0, 1) := by decide +kernel
theorem d_law_727 : decode code 727 = .ok (.iload_n 3, 1) := by decide +kernel
theorem d_law_728 : decode code 728 = .ok (.iconst 4, 1) := by decide +kernel
theorem d_law_729 : decode code 729 = .ok (.iadd, 1) := by decide +kernel
theorem d_law_730 : decode code 730 = .ok (.iaload, 1) := by decide +kernel
theorem d_law_731 : decode code 731 = .ok (.invokevirtual 92, 3) := by decide +kernel
theorem d_law_734 : decode code 734 = .ok (.pop, 1) := by decide +kernel
theorem d_law_735 : decode code 735 = .ok (.aload_n 2, 1) := by decide +kernel
theorem d_law_736 : decode code 736 = .ok (.aload_n 0, 1) := by decide +kernel
theorem d_law_737 : decode code 737 = .ok (.iload_n 3, 1) := by decide +kernel
theorem d_law_738 : decode code 738 = .ok (.iconst 1, 1) := by decide +kernel
theorem d_law_739 : decode code 739 = .ok (.iadd, 1) := by decide +kernel
theorem d_law_740 : decode code 740 = .ok (.iaload, 1) := by decide +kernel
theorem d_law_741 : decode code 741 = .ok (.aload_n 0, 1) := by decide +kernel
theorem d_law_742 : decode code 742 = .ok (.iload_n 3, 1) := by decide +kernel
theorem d_law_743 : decode code 743 = .ok (.iconst 2, 1) := by decide +kernel
theorem d_law_744 : decode code 744 = .ok (.iadd, 1) := by decide +kernel
theorem d_law_745 : decode code 745 = .ok (.iaload, 1) := by decide +kernel
theorem d_law_746 : decode code 746 = .ok (.aload_n 0, 1) := by decide +kernel
theorem d_law_747 : decode code 747 = .ok (.iload_n 3, 1) := by decide +kernel
theorem d_law_748 : decode code 748 = .ok (.iconst 3, 1) := by decide +kernel
theorem d_law_749 : decode code 749 = .ok (.iadd, 1) := by decide +kernel
theorem d_law_750 : decode code 750 = .ok (.iaload, 1) := by decide +kernel
theorem d_law_751 : decode code 751 = .ok (.aload_n 0, 1) := by decide +kernel
theorem d_law_752 : decode code 752 = .ok (.iload_n 3, 1) := by decide +kernel
theorem d_law_753 : decode code 753 = .ok (.iconst 4, 1) := by decide +kernel
theorem d_law_754 : decode code 754 = .ok (.iadd, 1) := by decide +kernel
theorem d_law_755 : decode code 755 = .ok (.iaload, 1) := by decide +kernel
theorem d_law_756 : decode code 756 = .ok (.invokevirtual 95, 3) := by decide +kernel
theorem d_law_759 : decode code 759 = .ok (.pop, 1) := by decide +kernel
theorem d_law_760 : decode code 760 = .ok (.goto 382, 3) := by decide +kernel
theorem d_law_763 : decode code 763 = .ok (.aload_n 1, 1) := by decide +kernel
theorem d_law_764 : decode code 764 = .ok (.aload_n 0, 1) := by decide +kernel
theorem d_law_765 : decode code 765 = .ok (.iload_n 3, 1) := by decide +kernel
theorem d_law_766 : decode code 766 = .ok (.iconst 1, 1) := by decide +kernel
theorem d_law_767 : decode code 767 = .ok (.iadd, 1) := by decide +kernel
theorem d_law_768 : decode code 768 = .ok (.iaload, 1) := by decide +kernel
theorem d_law_769 : decode code 769 = .ok (.invokevirtual 96, 3) := by decide +kernel
theorem d_law_772 : decode code 772 = .ok (.pop, 1) := by decide +kernel
theorem d_law_773 : decode code 773 = .ok (.aload_n 2, 1) := by decide +kernel
theorem d_law_774 : decode code 774 = .ok (.aload_n 0, 1) := by decide +kernel
theorem d_law_775 : decode code 775 = .ok (.iload_n 3, 1) := by decide +kernel
theorem d_law_776 : decode code 776 = .ok (.iconst 1, 1) := by decide +kernel
theorem d_law_777 : decode code 777 = .ok (.iadd, 1) := by decide +kernel
theorem d_law_778 : decode code 778 = .ok (.iaload, 1) := by decide +kernel
theorem d_law_779 : decode code 779 = .ok (.invokevirtual 99, 3) := by decide +kernel
theorem d_law_782 : decode code 782 = .ok (.pop, 1) := by decide +kernel
theorem d_law_783 : decode code 783 = .ok (.goto 359, 3) := by decide +kernel
theorem d_law_786 : decode code 786 = .ok (.aload_n 1, 1) := by decide +kernel
theorem d_law_787 : decode code 787 = .ok (.aload_n 0, 1) := by decide +kernel
theorem d_law_788 : decode code 788 = .ok (.iload_n 3, 1) := by decide +kernel
theorem d_law_789 : decode code 789 = .ok (.iconst 1, 1) := by decide +kernel
theorem d_law_790 : decode code 790 = .ok (.iadd, 1) := by decide +kernel
theorem d_law_791 : decode code 791 = .ok (.iaload, 1) := by decide +kernel
theorem d_law_792 : decode code 792 = .ok (.aload_n 0, 1) := by decide +kernel
theorem d_law_793 : decode code 793 = .ok (.iload_n 3, 1) := by decide +kernel
theorem d_law_794 : decode code 794 = .ok (.iconst 2, 1) := by decide +kernel
theorem d_law_795 : decode code 795 = .ok (.iadd, 1) := by decide +kernel
theorem d_law_796 : decode code 796 = .ok (.iaload, 1) := by decide +kernel
theorem d_law_797 : decode code 797 = .ok (.invokevirtual 100, 3) := by decide +kernel
theorem d_law_800 : decode code 800 = .ok (.pop, 1) := by decide +kernel
theorem d_law_801 : decode code 801 = .ok (.aload_n 2, 1) := by decide +kernel
theorem d_law_802 : decode code 802 = .ok (.aload_n 0, 1) := by decide +kernel
theorem d_law_803 : decode code 803 = .ok (.iload_n 3, 1) := by decide +kernel
theorem d_law_804 : decode code 804 = .ok (.iconst 1, 1) := by decide +kernel
theorem d_law_805 : decode code 805 = .ok (.iadd, 1) := by decide +kernel
theorem d_law_806 : decode code 806 = .ok (.iaload, 1) := by decide +kernel
theorem d_law_807 : decode code 807 = .ok (.aload_n 0, 1) := by decide +kernel
theorem d_law_808 : decode code 808 = .ok (.iload_n 3, 1) := by decide +kernel
theorem d_law_809 : decode code 809 = .ok (.iconst 2, 1) := by decide +kernel
theorem d_law_810 : decode code 810 = .ok (.iadd, 1) := by decide +kernel
theorem d_law_811 : decode code 811 = .ok (.iaload, 1) := by decide +kernel
theorem d_law_812 : decode code 812 = .ok (.invokevirtual 103, 3) := by decide +kernel
theorem d_law_815 : decode code 815 = .ok (.pop, 1) := by decide +kernel
theorem d_law_816 : decode code 816 = .ok (.goto 326, 3) := by decide +kernel
theorem d_law_819 : decode code 819 = .ok (.aload_n 1, 1) := by decide +kernel
theorem d_law_820 : decode code 820 = .ok (.aload_n 0, 1) := by decide +kernel
theorem d_law_821 : decode code 821 = .ok (.iload_n 3, 1) := by decide +kernel
theorem d_law_822 : decode code 822 = .ok (.iconst 1, 1) := by decide +kernel
theorem d_law_823 : decode code 823 = .ok (.iadd, 1) := by decide +kernel
theorem d_law_824 : decode code 824 = .ok (.iaload, 1) := by decide +kernel
theorem d_law_825 : decode code 825 = .ok (.aload_n 0, 1) := by decide +kernel
theorem d_law_826 : decode code 826 = .ok (.iload_n 3, 1) := by decide +kernel
theorem d_law_827 : decode code 827 = .ok (.iconst 2, 1) := by decide +kernel
theorem d_law_828 : decode code 828 = .ok (.iadd, 1) := by decide +kernel
theorem d_law_829 : decode code 829 = .ok (.iaload, 1) := by decide +kernel
theorem d_law_830 : decode code 830 = .ok (.invokevirtual 104, 3) := by decide +kernel
theorem d_law_833 : decode code 833 = .ok (.pop, 1) := by decide +kernel
theorem d_law_834 : decode code 834 = .ok (.aload_n 2, 1) := by decide +kernel
theorem d_law_835 : decode code 835 = .ok (.aload_n 0, 1) := by decide +kernel
theorem d_law_836 : decode code 836 = .ok (.iload_n 3, 1) := by decide +kernel
theorem d_law_837 : decode code 837 = .ok (.iconst 1, 1) := by decide +kernel
theorem d_law_838 : decode code 838 = .ok (.iadd, 1) := by decide +kernel
theorem d_law_839 : decode code 839 = .ok (.iaload, 1) := by decide +kernel
theorem d_law_840 : decode code 840 = .ok (.aload_n 0, 1) := by decide +kernel
theorem d_law_841 : decode code 841 = .ok (.iload_n 3, 1) := by decide +kernel
theorem d_law_842 : decode code 842 = .ok (.iconst 2, 1) := by decide +kernel
theorem d_law_843 : decode code 843 = .ok (.iadd, 1) := by decide +kernel
theorem d_law_844 : decode code 844 = .ok (.iaload, 1) := by decide +kernel
theorem d_law_845 : decode code 845 = .ok (.invokevirtual 107, 3) := by decide +kernel
theorem d_law_848 : decode code 848 = .ok (.pop, 1) := by decide +kernel
theorem d_law_849 : decode code 849 = .ok (.goto 293, 3) := by decide +kernel
theorem d_law_852 : decode code 852 = .ok (.aload_n 1, 1) := by decide +kernel
theorem d_law_853 : decode code 853 = .ok (.aload_n 0, 1) := by decide +kernel
theorem d_law_854 : decode code 854 = .ok (.iload_n 3, 1) := by decide +kernel
theorem d_law_855 : decode code 855 = .ok (.iconst 1, 1) := by decide +kernel
theorem d_law_856 : decode code 856 = .ok (.iadd, 1) := by decide +kernel
theorem d_law_857 : decode code 857 = .ok (.iaload, 1) := by decide +kernel
theorem d_law_858 : decode code 858 = .ok (.aload_n 0, 1) := by decide +kernel
theorem d_law_859 : decode code 859 = .ok (.iload_n 3, 1) := by decide +kernel
theorem d_law_860 : decode code 860 = .ok (.iconst 2, 1) := by decide +kernel
theorem d_law_861 : decode code 861 = .ok (.iadd, 1) := by decide +kernel
theorem d_law_862 : decode code 862 = .ok (.iaload, 1) := by decide +kernel
theorem d_law_863 : decode code 863 = .ok (.aload_n 0, 1) := by decide +kernel
theorem d_law_864 : decode code 864 = .ok (.iload_n 3, 1) := by decide +kernel
theorem d_law_865 : decode code 865 = .ok (.iconst 3, 1) := by decide +kernel
theorem d_law_866 : decode code 866 = .ok (.iadd, 1) := by decide +kernel
theorem d_law_867 : decode code 867 = .ok (.iaload, 1) := by decide +kernel
theorem d_law_868 : decode code 868 = .ok (.invokevirtual 108, 3) := by decide +kernel
theorem d_law_871 : decode code 871 = .ok (.pop, 1) := by decide +kernel
theorem d_law_872 : decode code 872 = .ok (.aload_n 2, 1) := by decide +kernel
theorem d_law_873 : decode code 873 = .ok (.aload_n 0, 1) := by decide +kernel
theorem d_law_874 : decode code 874 = .ok (.iload_n 3, 1) := by decide +kernel
theorem d_law_875 : decode code 875 = .ok (.iconst 1, 1) := by decide +kernel
theorem d_law_876 : decode code 876 = .ok (.iadd, 1) := by decide +kernel
theorem d_law_877 : decode code 877 = .ok (.iaload, 1) := by decide +kernel
theorem d_law_878 : decode code 878 = .ok (.aload_n 0, 1) := by decide +kernel
theorem d_law_879 : decode code 879 = .ok (.iload_n 3, 1) := by decide +kernel
theorem d_law_880 : decode code 880 = .ok (.iconst 2, 1) := by decide +kernel
theorem d_law_881 : decode code 881 = .ok (.iadd, 1) := by decide +kernel
theorem d_law_882 : decode code 882 = .ok (.iaload, 1) := by decide +kernel
theorem d_law_883 : decode code 883 = .ok (.aload_n 0, 1) := by decide +kernel
theorem d_law_884 : decode code 884 = .ok (.iload_n 3, 1) := by decide +kernel
theorem d_law_885 : decode code 885 = .ok (.iconst 3, 1) := by decide +kernel
theorem d_law_886 : decode code 886 = .ok (.iadd, 1) := by decide +kernel
theorem d_law_887 : decode code 887 = .ok (.iaload, 1) := by decide +kernel
theorem d_law_888 : decode code 888 = .ok (.invokevirtual 111, 3) := by decide +kernel
theorem d_law_891 : decode code 891 = .ok (.pop, 1) := by decide +kernel
theorem d_law_892 : decode code 892 = .ok (.goto 250, 3) := by decide +kernel
theorem d_law_895 : decode code 895 = .ok (.aload_n 1, 1) := by decide +kernel
theorem d_law_896 : decode code 896 = .ok (.aload_n 0, 1) := by decide +kernel
theorem d_law_897 : decode code 897 = .ok (.iload_n 3, 1) := by decide +kernel
theorem d_law_898 : decode code 898 = .ok (.iconst 1, 1) := by decide +kernel
theorem d_law_899 : decode code 899 = .ok (.iadd, 1) := by decide +kernel
theorem d_law_900 : decode code 900 = .ok (.iaload, 1) := by decide +kernel
theorem d_law_901 : decode code 901 = .ok (.aload_n 0, 1) := by decide +kernel
theorem d_law_902 : decode code 902 = .ok (.iload_n 3, 1) := by decide +kernel
theorem d_law_903 : decode code 903 = .ok (.iconst 2, 1) := by decide +kernel
theorem d_law_904 : decode code 904 = .ok (.iadd, 1) := by decide +kernel
theorem d_law_905 : decode code 905 = .ok (.iaload, 1) := by decide +kernel
theorem d_law_906 : decode code 906 = .ok (.aload_n 0, 1) := by decide +kernel
theorem d_law_907 : decode code 907 = .ok (.iload_n 3, 1) := by decide +kernel
theorem d_law_908 : decode code 908 = .ok (.iconst 3, 1) := by decide +kernel
theorem d_law_909 : decode code 909 = .ok (.iadd, 1) := by decide +kernel
theorem d_law_910 : decode code 910 = .ok (.iaload, 1) := by decide +kernel
theorem d_law_911 : decode code 911 = .ok (.aload_n 0, 1) := by decide +kernel
theorem d_law_912 : decode code 912 = .ok (.iload_n 3, 1) := by decide +kernel
theorem d_law_913 : decode code 913 = .ok (.iconst 4, 1) := by decide +kernel
theorem d_law_914 : decode code 914 = .ok (.iadd, 1) := by decide +kernel
theorem d_law_915 : decode code 915 = .ok (.iaload, 1) := by decide +kernel
theorem d_law_916 : decode code 916 = .ok (.invokevirtual 112, 3) := by decide +kernel
theorem d_law_919 : decode code 919 = .ok (.pop, 1) := by decide +kernel
theorem d_law_920 : decode code 920 = .ok (.aload_n 2, 1) := by decide +kernel
theorem d_law_921 : decode code 921 = .ok (.aload_n 0, 1) := by decide +kernel
theorem d_law_922 : decode code 922 = .ok (.iload_n 3, 1) := by decide +kernel
theorem d_law_923 : decode code 923 = .ok (.iconst 1, 1) := by decide +kernel
theorem d_law_924 : decode code 924 = .ok (.iadd, 1) := by decide +kernel
theorem d_law_925 : decode code 925 = .ok (.iaload, 1) := by decide +kernel
theorem d_law_926 : decode code 926 = .ok (.aload_n 0, 1) := by decide +kernel
theorem d_law_927 : decode code 927 = .ok (.iload_n 3, 1) := by decide +kernel
theorem d_law_928 : decode code 928 = .ok (.iconst 2, 1) := by decide +kernel
theorem d_law_929 : decode code 929 = .ok (.iadd, 1) := by decide +kernel
theorem d_law_930 : decode code 930 = .ok (.iaload, 1) := by decide +kernel
theorem d_law_931 : decode code 931 = .ok (.aload_n 0, 1) := by decide +kernel
theorem d_law_932 : decode code 932 = .ok (.iload_n 3, 1) := by decide +kernel
theorem d_law_933 : decode code 933 = .ok (.iconst 3, 1) := by decide +kernel
theorem d_law_934 : decode code 934 = .ok (.iadd, 1) := by decide +kernel
theorem d_law_935 : decode code 935 = .ok (.iaload, 1) := by decide +kernel
theorem d_law_936 : decode code 936 = .ok (.aload_n 0, 1) := by decide +kernel
theorem d_law_937 : decode code 937 = .ok (.iload_n 3, 1) := by decide +kernel
theorem d_law_938 : decode code 938 = .ok (.iconst 4, 1) := by decide +kernel
theorem d_law_939 : decode code 939 = .ok (.iadd, 1) := by decide +kernel
theorem d_law_940 : decode code 940 = .ok (.iaload, 1) := by decide +kernel
theorem d_law_941 : decode code 941 = .ok (.invokevirtual 115, 3) := by decide +kernel
theorem d_law_944 : decode code 944 = .ok (.pop, 1) := by decide +kernel
theorem d_law_945 : decode code 945 = .ok (.goto 197, 3) := by decide +kernel
theorem d_law_948 : decode code 948 = .ok (.aload_n 1, 1) := by decide +kernel
theorem d_law_949 : decode code 949 = .ok (.aload_n 0, 1) := by decide +kernel
theorem d_law_950 : decode code 950 = .ok (.iload_n 3, 1) := by decide +kernel
theorem d_law_951 : decode code 951 = .ok (.iconst 1, 1) := by decide +kernel
theorem d_law_952 : decode code 952 = .ok (.iadd, 1) := by decide +kernel
theorem d_law_953 : decode code 953 = .ok (.iaload, 1) := by decide +kernel
theorem d_law_954 : decode code 954 = .ok (.aload_n 0, 1) := by decide +kernel
theorem d_law_955 : decode code 955 = .ok (.iload_n 3, 1) := by decide +kernel
theorem d_law_956 : decode code 956 = .ok (.iconst 2, 1) := by decide +kernel
theorem d_law_957 : decode code 957 = .ok (.iadd, 1) := by decide +kernel
theorem d_law_958 : decode code 958 = .ok (.iaload, 1) := by decide +kernel
theorem d_law_959 : decode code 959 = .ok (.aload_n 0, 1) := by decide +kernel
theorem d_law_960 : decode code 960 = .ok (.iload_n 3, 1) := by decide +kernel
theorem d_law_961 : decode code 961 = .ok (.iconst 3, 1) := by decide +kernel
theorem d_law_962 : decode code 962 = .ok (.iadd, 1) := by decide +kernel
theorem d_law_963 : decode code 963 = .ok (.iaload, 1) := by decide +kernel
theorem d_law_964 : decode code 964 = .ok (.invokevirtual 116, 3) := by decide +kernel
theorem d_law_967 : decode code 967 = .ok (.pop, 1) := by decide +kernel
theorem d_law_968 : decode code 968 = .ok (.aload_n 2, 1) := by decide +kernel
theorem d_law_969 : decode code 969 = .ok (.aload_n 0, 1) := by decide +kernel
theorem d_law_970 : decode code 970 = .ok (.iload_n 3, 1) := by decide +kernel
theorem d_law_971 : decode code 971 = .ok (.iconst 1, 1) := by decide +kernel
theorem d_law_972 : decode code 972 = .ok (.iadd, 1) := by decide +kernel
theorem d_law_973 : decode code 973 = .ok (.iaload, 1) := by decide +kernel
theorem d_law_974 : decode code 974 = .ok (.aload_n 0, 1) := by decide +kernel
theorem d_law_975 : decode code 975 = .ok (.iload_n 3, 1) := by decide +kernel
theorem d_law_976 : decode code 976 = .ok (.iconst 2, 1) := by decide +kernel
theorem d_law_977 : decode code 977 = .ok (.iadd, 1) := by decide +kernel
theorem d_law_978 : decode code 978 = .ok (.iaload, 1) := by decide +kernel
theorem d_law_979 : decode code 979 = .ok (.aload_n 0, 1) := by decide +kernel
theorem d_law_980 : decode code 980 = .ok (.iload_n 3, 1) := by decide +kernel
theorem d_law_981 : decode code 981 = .ok (.iconst 3, 1) := by decide +kernel
theorem d_law_982 : decode code 982 = .ok (.iadd, 1) := by decide +kernel
theorem d_law_983 : decode code 983 = .ok (.iaload, 1) := by decide +kernel
theorem d_law_984 : decode code 984 = .ok (.invokevirtual 119, 3) := by decide +kernel
theorem d_law_987 : decode code 987 = .ok (.pop, 1) := by decide +kernel
theorem d_law_988 : decode code 988 = .ok (.goto 154, 3) := by decide +kernel
theorem d_law_991 : decode code 991 = .ok (.aload_n 1, 1) := by decide +kernel
theorem d_law_992 : decode code 992 = .ok (.invokevirtual 120, 3) := by decide +kernel
theorem d_law_995 : decode code 995 = .ok (.pop, 1) := by decide +kernel
theorem d_law_996 : decode code 996 = .ok (.aload_n 2, 1) := by decide +kernel
theorem d_law_997 : decode code 997 = .ok (.invokevirtual 123, 3) := by decide +kernel
theorem d_law_1000 : decode code 1000 = .ok (.pop, 1) := by decide +kernel
theorem d_law_1001 : decode code 1001 = .ok (.goto 141, 3) := by decide +kernel
theorem d_law_1004 : decode code 1004 = .ok (.aload_n 1, 1) := by decide +kernel
theorem d_law_1005 : decode code 1005 = .ok (.aload_n 0, 1) := by decide +kernel
theorem d_law_1006 : decode code 1006 = .ok (.iload_n 3, 1) := by decide +kernel
theorem d_law_1007 : decode code 1007 = .ok (.iconst 1, 1) := by decide +kernel
theorem d_law_1008 : decode code 1008 = .ok (.iadd, 1) := by decide +kernel
theorem d_law_1009 : decode code 1009 = .ok (.iaload, 1) := by decide +kernel
theorem d_law_1010 : decode code 1010 = .ok (.invokevirtual 124, 3) := by decide +kernel
theorem d_law_1013 : decode code 1013 = .ok (.pop, 1) := by decide +kernel
theorem d_law_1014 : decode code 1014 = .ok (.aload_n 2, 1) := by decide +kernel
theorem d_law_1015 : decode code 1015 = .ok (.aload_n 0, 1) := by decide +kernel
theorem d_law_1016 : decode code 1016 = .ok (.iload_n 3, 1) := by decide +kernel
theorem d_law_1017 : decode code 1017 = .ok (.iconst 1, 1) := by decide +kernel
theorem d_law_1018 : decode code 1018 = .ok (.iadd, 1) := by decide +kernel
theorem d_law_1019 : decode code 1019 = .ok (.iaload, 1) := by decide +kernel
theorem d_law_1020 : decode code 1020 = .ok (.invokevirtual 127, 3) := by decide +kernel
theorem d_law_1023 : decode code 1023 = .ok (.pop, 1) := by decide +kernel
theorem d_law_1024 : decode code 1024 = .ok (.goto 118, 3) := by decide +kernel
theorem d_law_1027 : decode code 1027 = .ok (.aload_n 1, 1) := by decide +kernel
theorem d_law_1028 : decode code 1028 = .ok (.aload_n 0, 1) := by decide +kernel
theorem d_law_1029 : decode code 1029 = .ok (.iload_n 3, 1) := by decide +kernel
theorem d_law_1030 : decode code 1030 = .ok (.iconst 1, 1) := by decide +kernel
theorem d_law_1031 : decode code 1031 = .ok (.iadd, 1) := by decide +kernel
theorem d_law_1032 : decode code 1032 = .ok (.iaload, 1) := by decide +kernel
theorem d_law_1033 : decode code 1033 = .ok (.invokevirtual 128, 3) := by decide +kernel
theorem d_law_1036 : decode code 1036 = .ok (.pop, 1) := by decide +kernel
theorem d_law_1037 : decode code 1037 = .ok (.aload_n 2, 1) := by decide +kernel
theorem d_law_1038 : decode code 1038 = .ok (.aload_n 0, 1) := by decide +kernel
theorem d_law_1039 : decode code 1039 = .ok (.iload_n 3, 1) := by decide +kernel
theorem d_law_1040 : decode code 1040 = .ok (.iconst 1, 1) := by decide +kernel
theorem d_law_1041 : decode code 1041 = .ok (.iadd, 1) := by decide +kernel
theorem d_law_1042 : decode code 1042 = .ok (.iaload, 1) := by decide +kernel
theorem d_law_1043 : decode code 1043 = .ok (.invokevirtual 131, 3) := by decide +kernel
theorem d_law_1046 : decode code 1046 = .ok (.pop, 1) := by decide +kernel
theorem d_law_1047 : decode code 1047 = .ok (.goto 95, 3) := by decide +kernel
theorem d_law_1050 : decode code 1050 = .ok (.aload_n 1, 1) := by decide +kernel
theorem d_law_1051 : decode code 1051 = .ok (.aload_n 0, 1) := by decide +kernel
theorem d_law_1052 : decode code 1052 = .ok (.iload_n 3, 1) := by decide +kernel
theorem d_law_1053 : decode code 1053 = .ok (.iconst 1, 1) := by decide +kernel
theorem d_law_1054 : decode code 1054 = .ok (.iadd, 1) := by decide +kernel
theorem d_law_1055 : decode code 1055 = .ok (.iaload, 1) := by decide +kernel
theorem d_law_1056 : decode code 1056 = .ok (.invokevirtual 132, 3) := by decide +kernel
theorem d_law_1059 : decode code 1059 = .ok (.pop, 1) := by decide +kernel
theorem d_law_1060 : decode code 1060 = .ok (.aload_n 2, 1) := by decide +kernel
theorem d_law_1061 : decode code 1061 = .ok (.aload_n 0, 1) := by decide +kernel
theorem d_law_1062 : decode code 1062 = .ok (.iload_n 3, 1) := by decide +kernel
theorem d_law_1063 : decode code 1063 = .ok (.iconst 1, 1) := by decide +kernel
theorem d_law_1064 : decode code 1064 = .ok (.iadd, 1) := by decide +kernel
theorem d_law_1065 : decode code 1065 = .ok (.iaload, 1) := by decide +kernel
theorem d_law_1066 : decode code 1066 = .ok (.invokevirtual 135, 3) := by decide +kernel
theorem d_law_1069 : decode code 1069 = .ok (.pop, 1) := by decide +kernel
theorem d_law_1070 : decode code 1070 = .ok (.goto 72, 3) := by decide +kernel
theorem d_law_1073 : decode code 1073 = .ok (.aload_n 1, 1) := by decide +kernel
theorem d_law_1074 : decode code 1074 = .ok (.aload_n 0, 1) := by decide +kernel
theorem d_law_1075 : decode code 1075 = .ok (.iload_n 3, 1) := by decide +kernel
theorem d_law_1076 : decode code 1076 = .ok (.iconst 1, 1) := by decide +kernel
theorem d_law_1077 : decode code 1077 = .ok (.iadd, 1) := by decide +kernel
theorem d_law_1078 : decode code 1078 = .ok (.iaload, 1) := by decide +kernel
theorem d_law_1079 : decode code 1079 = .ok (.invokevirtual 136, 3) := by decide +kernel
theorem d_law_1082 : decode code 1082 = .ok (.aload_n 2, 1) := by decide +kernel
theorem d_law_1083 : decode code 1083 = .ok (.aload_n 0, 1) := by decide +kernel
theorem d_law_1084 : decode code 1084 = .ok (.iload_n 3, 1) := by decide +kernel
theorem d_law_1085 : decode code 1085 = .ok (.iconst 1, 1) := by decide +kernel
theorem d_law_1086 : decode code 1086 = .ok (.iadd, 1) := by decide +kernel
theorem d_law_1087 : decode code 1087 = .ok (.iaload, 1) := by decide +kernel
theorem d_law_1088 : decode code 1088 = .ok (.invokevirtual 140, 3) := by decide +kernel
theorem d_law_1091 : decode code 1091 = .ok (.if_icmp .eq 51, 3) := by decide +kernel
theorem d_law_1094 : decode code 1094 = .ok (.iconst 0, 1) := by decide +kernel
theorem d_law_1095 : decode code 1095 = .ok (.ireturn, 1) := by decide +kernel
theorem d_law_1096 : decode code 1096 = .ok (.aload_n 1, 1) := by decide +kernel
theorem d_law_1097 : decode code 1097 = .ok (.aload_n 0, 1) := by decide +kernel
theorem d_law_1098 : decode code 1098 = .ok (.iload_n 3, 1) := by decide +kernel
theorem d_law_1099 : decode code 1099 = .ok (.iconst 1, 1) := by decide +kernel
theorem d_law_1100 : decode code 1100 = .ok (.iadd, 1) := by decide +kernel
theorem d_law_1101 : decode code 1101 = .ok (.iaload, 1) := by decide +kernel
theorem d_law_1102 : decode code 1102 = .ok (.invokevirtual 141, 3) := by decide +kernel
theorem d_law_1105 : decode code 1105 = .ok (.pop, 1) := by decide +kernel
theorem d_law_1106 : decode code 1106 = .ok (.aload_n 2, 1) := by decide +kernel
theorem d_law_1107 : decode code 1107 = .ok (.aload_n 0, 1) := by decide +kernel
theorem d_law_1108 : decode code 1108 = .ok (.iload_n 3, 1) := by decide +kernel
theorem d_law_1109 : decode code 1109 = .ok (.iconst 1, 1) := by decide +kernel
theorem d_law_1110 : decode code 1110 = .ok (.iadd, 1) := by decide +kernel
theorem d_law_1111 : decode code 1111 = .ok (.iaload, 1) := by decide +kernel
theorem d_law_1112 : decode code 1112 = .ok (.invokevirtual 144, 3) := by decide +kernel
theorem d_law_1115 : decode code 1115 = .ok (.pop, 1) := by decide +kernel
theorem d_law_1116 : decode code 1116 = .ok (.goto 26, 3) := by decide +kernel
theorem d_law_1119 : decode code 1119 = .ok (.aload_n 1, 1) := by decide +kernel
theorem d_law_1120 : decode code 1120 = .ok (.aload_n 0, 1) := by decide +kernel
theorem d_law_1121 : decode code 1121 = .ok (.iload_n 3, 1) := by decide +kernel
theorem d_law_1122 : decode code 1122 = .ok (.iconst 1, 1) := by decide +kernel
theorem d_law_1123 : decode code 1123 = .ok (.iadd, 1) := by decide +kernel
theorem d_law_1124 : decode code 1124 = .ok (.iaload, 1) := by decide +kernel
theorem d_law_1125 : decode code 1125 = .ok (.invokevirtual 145, 3) := by decide +kernel
theorem d_law_1128 : decode code 1128 = .ok (.pop, 1) := by decide +kernel
theorem d_law_1129 : decode code 1129 = .ok (.aload_n 2, 1) := by decide +kernel
theorem d_law_1130 : decode code 1130 = .ok (.aload_n 0, 1) := by decide +kernel
theorem d_law_1131 : decode code 1131 = .ok (.iload_n 3, 1) := by decide +kernel
theorem d_law_1132 : decode code 1132 = .ok (.iconst 1, 1) := by decide +kernel
theorem d_law_1133 : decode code 1133 = .ok (.iadd, 1) := by decide +kernel
theorem d_law_1134 : decode code 1134 = .ok (.iaload, 1) := by decide +kernel
theorem d_law_1135 : decode code 1135 = .ok (.invokevirtual 148, 3) := by decide +kernel
theorem d_law_1138 : decode code 1138 = .ok (.pop, 1) := by decide +kernel
theorem d_law_1139 : decode code 1139 = .ok (.goto 3, 3) := by decide +kernel
theorem d_law_1142 : decode code 1142 = .ok (.iinc 3 6, 3) := by decide +kernel
theorem d_law_1145 : decode code 1145 = .ok (.goto (-1127), 3) := by decide +kernel
theorem d_law_1148 : decode code 1148 = .ok (.iconst 1, 1) := by decide +kernel
theorem d_law_1149 : decode code 1149 = .ok (.ireturn, 1) := by decide +kernel
