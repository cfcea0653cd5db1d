section MG1x0
theorem d_Main_init_0 : decode prog_1_method_1_code 0 = .ok (.aload_n 0, 1) := by decide +kernel
theorem d_Main_init_1 : decode prog_1_method_1_code 1 = .ok (.invokespecial 3, 3) := by decide +kernel
theorem d_Main_init_4 : decode prog_1_method_1_code 4 = .ok (.aload_n 0, 1) := by decide +kernel
theorem d_Main_init_5 : decode prog_1_method_1_code 5 = .ok (.new 9, 3) := by decide +kernel
theorem d_Main_init_8 : decode prog_1_method_1_code 8 = .ok (.dup, 1) := by decide +kernel
theorem d_Main_init_9 : decode prog_1_method_1_code 9 = .ok (.invokespecial 11, 3) := by decide +kernel
theorem d_Main_init_12 : decode prog_1_method_1_code 12 = .ok (.putfield 12, 3) := by decide +kernel
theorem d_Main_init_15 : decode prog_1_method_1_code 15 = .ok (.aload_n 0, 1) := by decide +kernel
theorem d_Main_init_16 : decode prog_1_method_1_code 16 = .ok (.new 16, 3) := by decide +kernel
theorem d_Main_init_19 : decode prog_1_method_1_code 19 = .ok (.dup, 1) := by decide +kernel
theorem d_Main_init_20 : decode prog_1_method_1_code 20 = .ok (.invokespecial 18, 3) := by decide +kernel
theorem d_Main_init_23 : decode prog_1_method_1_code 23 = .ok (.putfield 19, 3) := by decide +kernel
theorem d_Main_init_26 : decode prog_1_method_1_code 26 = .ok (.aload_n 0, 1) := by decide +kernel
theorem d_Main_init_27 : decode prog_1_method_1_code 27 = .ok (.new 23, 3) := by decide +kernel
theorem d_Main_init_30 : decode prog_1_method_1_code 30 = .ok (.dup, 1) := by decide +kernel
theorem d_Main_init_31 : decode prog_1_method_1_code 31 = .ok (.invokespecial 25, 3) := by decide +kernel
theorem d_Main_init_34 : decode prog_1_method_1_code 34 = .ok (.putfield 26, 3) := by decide +kernel
theorem d_Main_init_37 : decode prog_1_method_1_code 37 = .ok (.aload_n 0, 1) := by decide +kernel
theorem d_Main_init_38 : decode prog_1_method_1_code 38 = .ok (.new 23, 3) := by decide +kernel
theorem d_Main_init_41 : decode prog_1_method_1_code 41 = .ok (.dup, 1) := by decide +kernel
theorem d_Main_init_42 : decode prog_1_method_1_code 42 = .ok (.invokespecial 25, 3) := by decide +kernel
theorem d_Main_init_45 : decode prog_1_method_1_code 45 = .ok (.putfield 30, 3) := by decide +kernel
theorem d_Main_init_48 : decode prog_1_method_1_code 48 = .ok (.aload_n 0, 1) := by decide +kernel
theorem d_Main_init_49 : decode prog_1_method_1_code 49 = .ok (.new 33, 3) := by decide +kernel
theorem d_Main_init_52 : decode prog_1_method_1_code 52 = .ok (.dup, 1) := by decide +kernel
theorem d_Main_init_53 : decode prog_1_method_1_code 53 = .ok (.invokespecial 35, 3) := by decide +kernel
theorem d_Main_init_56 : decode prog_1_method_1_code 56 = .ok (.putfield 36, 3) := by decide +kernel
theorem d_Main_init_59 : decode prog_1_method_1_code 59 = .ok (.aload_n 0, 1) := by decide +kernel
theorem d_Main_init_60 : decode prog_1_method_1_code 60 = .ok (.new 33, 3) := by decide +kernel
theorem d_Main_init_63 : decode prog_1_method_1_code 63 = .ok (.dup, 1) := by decide +kernel
theorem d_Main_init_64 : decode prog_1_method_1_code 64 = .ok (.invokespecial 35, 3) := by decide +kernel
theorem d_Main_init_67 : decode prog_1_method_1_code 67 = .ok (.putfield 40, 3) := by decide +kernel
theorem d_Main_init_70 : decode prog_1_method_1_code 70 = .ok (.aload_n 0, 1) := by decide +kernel
theorem d_Main_init_71 : decode prog_1_method_1_code 71 = .ok (.new 43, 3) := by decide +kernel
theorem d_Main_init_74 : decode prog_1_method_1_code 74 = .ok (.dup, 1) := by decide +kernel
theorem d_Main_init_75 : decode prog_1_method_1_code 75 = .ok (.invokespecial 45, 3) := by decide +kernel
theorem d_Main_init_78 : decode prog_1_method_1_code 78 = .ok (.putfield 46, 3) := by decide +kernel
theorem d_Main_init_81 : decode prog_1_method_1_code 81 = .ok (.aload_n 0, 1) := by decide +kernel
theorem d_Main_init_82 : decode prog_1_method_1_code 82 = .ok (.new 50, 3) := by decide +kernel
theorem d_Main_init_85 : decode prog_1_method_1_code 85 = .ok (.dup, 1) := by decide +kernel
theorem d_Main_init_86 : decode prog_1_method_1_code 86 = .ok (.invokespecial 52, 3) := by decide +kernel
theorem d_Main_init_89 : decode prog_1_method_1_code 89 = .ok (.putfield 53, 3) := by decide +kernel
theorem d_Main_init_92 : decode prog_1_method_1_code 92 = .ok (.aload_n 0, 1) := by decide +kernel
theorem d_Main_init_93 : decode prog_1_method_1_code 93 = .ok (.new 57, 3) := by decide +kernel
theorem d_Main_init_96 : decode prog_1_method_1_code 96 = .ok (.dup, 1) := by decide +kernel
theorem d_Main_init_97 : decode prog_1_method_1_code 97 = .ok (.invokespecial 59, 3) := by decide +kernel
theorem d_Main_init_100 : decode prog_1_method_1_code 100 = .ok (.putfield 60, 3) := by decide +kernel
theorem d_Main_init_103 : decode prog_1_method_1_code 103 = .ok (.aload_n 0, 1) := by decide +kernel
theorem d_Main_init_104 : decode prog_1_method_1_code 104 = .ok (.new 64, 3) := by decide +kernel
theorem d_Main_init_107 : decode prog_1_method_1_code 107 = .ok (.dup, 1) := by decide +kernel
theorem d_Main_init_108 : decode prog_1_method_1_code 108 = .ok (.invokespecial 66, 3) := by decide +kernel
theorem d_Main_init_111 : decode prog_1_method_1_code 111 = .ok (.putfield 67, 3) := by decide +kernel
theorem d_Main_init_114 : decode prog_1_method_1_code 114 = .ok (.aload_n 0, 1) := by decide +kernel
theorem d_Main_init_115 : decode prog_1_method_1_code 115 = .ok (.new 71, 3) := by decide +kernel
theorem d_Main_init_118 : decode prog_1_method_1_code 118 = .ok (.dup, 1) := by decide +kernel
theorem d_Main_init_119 : decode prog_1_method_1_code 119 = .ok (.invokespecial 73, 3) := by decide +kernel
theorem d_Main_init_122 : decode prog_1_method_1_code 122 = .ok (.putfield 74, 3) := by decide +kernel
theorem d_Main_init_125 : decode prog_1_method_1_code 125 = .ok (.aload_n 0, 1) := by decide +kernel
theorem d_Main_init_126 : decode prog_1_method_1_code 126 = .ok (.iconst (-1), 1) := by decide +kernel
theorem d_Main_init_127 : decode prog_1_method_1_code 127 = .ok (.putfield 78, 3) := by decide +kernel
theorem d_Main_init_130 : decode prog_1_method_1_code 130 = .ok (.return_, 1) := by decide +kernel
theorem d_Main_feed_0 : decode prog_1_method_2_code 0 = .ok (.aload_n 0, 1) := by decide +kernel
theorem d_Main_feed_1 : decode prog_1_method_2_code 1 = .ok (.getfield 12, 3) := by decide +kernel
theorem d_Main_feed_4 : decode prog_1_method_2_code 4 = .ok (.getfield 82, 3) := by decide +kernel
theorem d_Main_feed_7 : decode prog_1_method_2_code 7 = .ok (.bipush 20, 2) := by decide +kernel
theorem d_Main_feed_9 : decode prog_1_method_2_code 9 = .ok (.iadd, 1) := by decide +kernel
theorem d_Main_feed_10 : decode prog_1_method_2_code 10 = .ok (.sipush 2000, 3) := by decide +kernel
theorem d_Main_feed_13 : decode prog_1_method_2_code 13 = .ok (.if_icmp .le 5, 3) := by decide +kernel
theorem d_Main_feed_16 : decode prog_1_method_2_code 16 = .ok (.iconst (-1), 1) := by decide +kernel
theorem d_Main_feed_17 : decode prog_1_method_2_code 17 = .ok (.ireturn, 1) := by decide +kernel
theorem d_Main_feed_18 : decode prog_1_method_2_code 18 = .ok (.aload_n 0, 1) := by decide +kernel
theorem d_Main_feed_19 : decode prog_1_method_2_code 19 = .ok (.getfield 12, 3) := by decide +kernel
theorem d_Main_feed_22 : decode prog_1_method_2_code 22 = .ok (.iload_n 1, 1) := by decide +kernel
theorem d_Main_feed_23 : decode prog_1_method_2_code 23 = .ok (.invokevirtual 85, 3) := by decide +kernel
theorem d_Main_feed_26 : decode prog_1_method_2_code 26 = .ok (.aload_n 0, 1) := by decide +kernel
theorem d_Main_feed_27 : decode prog_1_method_2_code 27 = .ok (.getfield 12, 3) := by decide +kernel
theorem d_Main_feed_30 : decode prog_1_method_2_code 30 = .ok (.iload_n 2, 1) := by decide +kernel
theorem d_Main_feed_31 : decode prog_1_method_2_code 31 = .ok (.invokevirtual 85, 3) := by decide +kernel
theorem d_Main_feed_34 : decode prog_1_method_2_code 34 = .ok (.aload_n 0, 1) := by decide +kernel
theorem d_Main_feed_35 : decode prog_1_method_2_code 35 = .ok (.getfield 12, 3) := by decide +kernel
theorem d_Main_feed_38 : decode prog_1_method_2_code 38 = .ok (.iload_n 3, 1) := by decide +kernel
theorem d_Main_feed_39 : decode prog_1_method_2_code 39 = .ok (.invokevirtual 85, 3) := by decide +kernel
theorem d_Main_feed_42 : decode prog_1_method_2_code 42 = .ok (.aload_n 0, 1) := by decide +kernel
theorem d_Main_feed_43 : decode prog_1_method_2_code 43 = .ok (.getfield 12, 3) := by decide +kernel
theorem d_Main_feed_46 : decode prog_1_method_2_code 46 = .ok (.iload 4, 2) := by decide +kernel
theorem d_Main_feed_48 : decode prog_1_method_2_code 48 = .ok (.invokevirtual 85, 3) := by decide +kernel
theorem d_Main_feed_51 : decode prog_1_method_2_code 51 = .ok (.aload_n 0, 1) := by decide +kernel
theorem d_Main_feed_52 : decode prog_1_method_2_code 52 = .ok (.getfield 12, 3) := by decide +kernel
theorem d_Main_feed_55 : decode prog_1_method_2_code 55 = .ok (.iload 5, 2) := by decide +kernel
theorem d_Main_feed_57 : decode prog_1_method_2_code 57 = .ok (.invokevirtual 85, 3) := by decide +kernel
theorem d_Main_feed_60 : decode prog_1_method_2_code 60 = .ok (.aload_n 0, 1) := by decide +kernel
theorem d_Main_feed_61 : decode prog_1_method_2_code 61 = .ok (.getfield 12, 3) := by decide +kernel
theorem d_Main_feed_64 : decode prog_1_method_2_code 64 = .ok (.getfield 82, 3) := by decide +kernel
theorem d_Main_feed_67 : decode prog_1_method_2_code 67 = .ok (.ireturn, 1) := by decide +kernel
theorem d_Main_back_0 : decode prog_1_method_3_code 0 = .ok (.iload_n 1, 1) := by decide +kernel
theorem d_Main_back_1 : decode prog_1_method_3_code 1 = .ok (.ifCond .lt 14, 3) := by decide +kernel
theorem d_Main_back_4 : decode prog_1_method_3_code 4 = .ok (.iload_n 1, 1) := by decide +kernel
theorem d_Main_back_5 : decode prog_1_method_3_code 5 = .ok (.aload_n 0, 1) := by decide +kernel
theorem d_Main_back_6 : decode prog_1_method_3_code 6 = .ok (.getfield 12, 3) := by decide +kernel
theorem d_Main_back_9 : decode prog_1_method_3_code 9 = .ok (.getfield 82, 3) := by decide +kernel
theorem d_Main_back_12 : decode prog_1_method_3_code 12 = .ok (.if_icmp .le 5, 3) := by decide +kernel
theorem d_Main_back_15 : decode prog_1_method_3_code 15 = .ok (.iconst (-1), 1) := by decide +kernel
theorem d_Main_back_16 : decode prog_1_method_3_code 16 = .ok (.ireturn, 1) := by decide +kernel
theorem d_Main_back_17 : decode prog_1_method_3_code 17 = .ok (.aload_n 0, 1) := by decide +kernel
theorem d_Main_back_18 : decode prog_1_method_3_code 18 = .ok (.getfield 12, 3) := by decide +kernel
theorem d_Main_back_21 : decode prog_1_method_3_code 21 = .ok (.dup, 1) := by decide +kernel
theorem d_Main_back_22 : decode prog_1_method_3_code 22 = .ok (.getfield 82, 3) := by decide +kernel
theorem d_Main_back_25 : decode prog_1_method_3_code 25 = .ok (.iload_n 1, 1) := by decide +kernel
theorem d_Main_back_26 : decode prog_1_method_3_code 26 = .ok (.isub, 1) := by decide +kernel
theorem d_Main_back_27 : decode prog_1_method_3_code 27 = .ok (.putfield 82, 3) := by decide +kernel
theorem d_Main_back_30 : decode prog_1_method_3_code 30 = .ok (.aload_n 0, 1) := by decide +kernel
theorem d_Main_back_31 : decode prog_1_method_3_code 31 = .ok (.getfield 12, 3) := by decide +kernel
theorem d_Main_back_34 : decode prog_1_method_3_code 34 = .ok (.getfield 82, 3) := by decide +kernel
theorem d_Main_back_37 : decode prog_1_method_3_code 37 = .ok (.ireturn, 1) := by decide +kernel
theorem d_Main_read_0 : decode prog_1_method_4_code 0 = .ok (.aload_n 0, 1) := by decide +kernel
theorem d_Main_read_1 : decode prog_1_method_4_code 1 = .ok (.getfield 19, 3) := by decide +kernel
theorem d_Main_read_4 : decode prog_1_method_4_code 4 = .ok (.aload_n 0, 1) := by decide +kernel
theorem d_Main_read_5 : decode prog_1_method_4_code 5 = .ok (.getfield 12, 3) := by decide +kernel
theorem d_Main_read_8 : decode prog_1_method_4_code 8 = .ok (.aload_n 0, 1) := by decide +kernel
theorem d_Main_read_9 : decode prog_1_method_4_code 9 = .ok (.getfield 30, 3) := by decide +kernel
theorem d_Main_read_12 : decode prog_1_method_4_code 12 = .ok (.invokevirtual 89, 3) := by decide +kernel
theorem d_Main_read_15 : decode prog_1_method_4_code 15 = .ok (.istore_n 1, 1) := by decide +kernel
theorem d_Main_read_16 : decode prog_1_method_4_code 16 = .ok (.aload_n 0, 1) := by decide +kernel
theorem d_Main_read_17 : decode prog_1_method_4_code 17 = .ok (.aload_n 0, 1) := by decide +kernel
theorem d_Main_read_18 : decode prog_1_method_4_code 18 = .ok (.getfield 19, 3) := by decide +kernel
theorem d_Main_read_21 : decode prog_1_method_4_code 21 = .ok (.invokevirtual 93, 3) := by decide +kernel
theorem d_Main_read_24 : decode prog_1_method_4_code 24 = .ok (.putfield 78, 3) := by decide +kernel
theorem d_Main_read_27 : decode prog_1_method_4_code 27 = .ok (.aload_n 0, 1) := by decide +kernel
theorem d_Main_read_28 : decode prog_1_method_4_code 28 = .ok (.getfield 12, 3) := by decide +kernel
theorem d_Main_read_31 : decode prog_1_method_4_code 31 = .ok (.iconst 0, 1) := by decide +kernel
theorem d_Main_read_32 : decode prog_1_method_4_code 32 = .ok (.putfield 82, 3) := by decide +kernel
theorem d_Main_read_35 : decode prog_1_method_4_code 35 = .ok (.iload_n 1, 1) := by decide +kernel
theorem d_Main_read_36 : decode prog_1_method_4_code 36 = .ok (.ifCond .ne 7, 3) := by decide +kernel
theorem d_Main_read_39 : decode prog_1_method_4_code 39 = .ok (.aload_n 0, 1) := by decide +kernel
theorem d_Main_read_40 : decode prog_1_method_4_code 40 = .ok (.invokevirtual 97, 3) := by decide +kernel
theorem d_Main_read_43 : decode prog_1_method_4_code 43 = .ok (.iload_n 1, 1) := by decide +kernel
theorem d_Main_read_44 : decode prog_1_method_4_code 44 = .ok (.ireturn, 1) := by decide +kernel
theorem d_Main_beginDraft_0 : decode prog_1_method_5_code 0 = .ok (.aload_n 0, 1) := by decide +kernel
theorem d_Main_beginDraft_1 : decode prog_1_method_5_code 1 = .ok (.getfield 26, 3) := by decide +kernel
theorem d_Main_beginDraft_4 : decode prog_1_method_5_code 4 = .ok (.astore_n 1, 1) := by decide +kernel
theorem d_Main_beginDraft_5 : decode prog_1_method_5_code 5 = .ok (.aload_n 0, 1) := by decide +kernel
theorem d_Main_beginDraft_6 : decode prog_1_method_5_code 6 = .ok (.aload_n 0, 1) := by decide +kernel
theorem d_Main_beginDraft_7 : decode prog_1_method_5_code 7 = .ok (.getfield 30, 3) := by decide +kernel
theorem d_Main_beginDraft_10 : decode prog_1_method_5_code 10 = .ok (.putfield 26, 3) := by decide +kernel
theorem d_Main_beginDraft_13 : decode prog_1_method_5_code 13 = .ok (.aload_n 0, 1) := by decide +kernel
theorem d_Main_beginDraft_14 : decode prog_1_method_5_code 14 = .ok (.aload_n 1, 1) := by decide +kernel
theorem d_Main_beginDraft_15 : decode prog_1_method_5_code 15 = .ok (.putfield 30, 3) := by decide +kernel
theorem d_Main_beginDraft_18 : decode prog_1_method_5_code 18 = .ok (.aload_n 0, 1) := by decide +kernel
theorem d_Main_beginDraft_19 : decode prog_1_method_5_code 19 = .ok (.getfield 36, 3) := by decide +kernel
theorem d_Main_beginDraft_22 : decode prog_1_method_5_code 22 = .ok (.aload_n 0, 1) := by decide +kernel
theorem d_Main_beginDraft_23 : decode prog_1_method_5_code 23 = .ok (.getfield 26, 3) := by decide +kernel
theorem d_Main_beginDraft_26 : decode prog_1_method_5_code 26 = .ok (.invokevirtual 100, 3) := by decide +kernel
theorem d_Main_beginDraft_29 : decode prog_1_method_5_code 29 = .ok (.aload_n 0, 1) := by decide +kernel
theorem d_Main_beginDraft_30 : decode prog_1_method_5_code 30 = .ok (.getfield 46, 3) := by decide +kernel
theorem d_Main_beginDraft_33 : decode prog_1_method_5_code 33 = .ok (.invokevirtual 104, 3) := by decide +kernel
theorem d_Main_beginDraft_36 : decode prog_1_method_5_code 36 = .ok (.aload_n 0, 1) := by decide +kernel
theorem d_Main_beginDraft_37 : decode prog_1_method_5_code 37 = .ok (.getfield 53, 3) := by decide +kernel
theorem d_Main_beginDraft_40 : decode prog_1_method_5_code 40 = .ok (.invokevirtual 107, 3) := by decide +kernel
theorem d_Main_beginDraft_43 : decode prog_1_method_5_code 43 = .ok (.aload_n 0, 1) := by decide +kernel
theorem d_Main_beginDraft_44 : decode prog_1_method_5_code 44 = .ok (.getfield 60, 3) := by decide +kernel
theorem d_Main_beginDraft_47 : decode prog_1_method_5_code 47 = .ok (.invokevirtual 108, 3) := by decide +kernel
theorem d_Main_beginDraft_50 : decode prog_1_method_5_code 50 = .ok (.return_, 1) := by decide +kernel
theorem d_Main_place_0 : decode prog_1_method_6_code 0 = .ok (.aload_n 0, 1) := by decide +kernel
theorem d_Main_place_1 : decode prog_1_method_6_code 1 = .ok (.getfield 78, 3) := by decide +kernel
theorem d_Main_place_4 : decode prog_1_method_6_code 4 = .ok (.ireturn, 1) := by decide +kernel
theorem d_Main_food_0 : decode prog_1_method_7_code 0 = .ok (.iload_n 1, 1) := by decide +kernel
theorem d_Main_food_1 : decode prog_1_method_7_code 1 = .ok (.aload_n 0, 1) := by decide +kernel
theorem d_Main_food_2 : decode prog_1_method_7_code 2 = .ok (.getfield 26, 3) := by decide +kernel
theorem d_Main_food_5 : decode prog_1_method_7_code 5 = .ok (.getfield 109, 3) := by decide +kernel
theorem d_Main_food_8 : decode prog_1_method_7_code 8 = .ok (.invokestatic 112, 3) := by decide +kernel
theorem d_Main_food_11 : decode prog_1_method_7_code 11 = .ok (.ifCond .ne 5, 3) := by decide +kernel
theorem d_Main_food_14 : decode prog_1_method_7_code 14 = .ok (.iconst (-1), 1) := by decide +kernel
theorem d_Main_food_15 : decode prog_1_method_7_code 15 = .ok (.ireturn, 1) := by decide +kernel
theorem d_Main_food_16 : decode prog_1_method_7_code 16 = .ok (.iload_n 2, 1) := by decide +kernel
theorem d_Main_food_17 : decode prog_1_method_7_code 17 = .ok (.tableswitch 71 0 4 #[35, 47, 59, 59, 59], 35) := by decide +kernel
theorem d_Main_food_52 : decode prog_1_method_7_code 52 = .ok (.aload_n 0, 1) := by decide +kernel
theorem d_Main_food_53 : decode prog_1_method_7_code 53 = .ok (.getfield 36, 3) := by decide +kernel
theorem d_Main_food_56 : decode prog_1_method_7_code 56 = .ok (.getfield 116, 3) := by decide +kernel
theorem d_Main_food_59 : decode prog_1_method_7_code 59 = .ok (.iload_n 1, 1) := by decide +kernel
theorem d_Main_food_60 : decode prog_1_method_7_code 60 = .ok (.invokestatic 120, 3) := by decide +kernel
theorem d_Main_food_63 : decode prog_1_method_7_code 63 = .ok (.ireturn, 1) := by decide +kernel
theorem d_Main_food_64 : decode prog_1_method_7_code 64 = .ok (.aload_n 0, 1) := by decide +kernel
theorem d_Main_food_65 : decode prog_1_method_7_code 65 = .ok (.getfield 26, 3) := by decide +kernel
theorem d_Main_food_68 : decode prog_1_method_7_code 68 = .ok (.getfield 124, 3) := by decide +kernel
theorem d_Main_food_71 : decode prog_1_method_7_code 71 = .ok (.iload_n 1, 1) := by decide +kernel
theorem d_Main_food_72 : decode prog_1_method_7_code 72 = .ok (.invokestatic 120, 3) := by decide +kernel
theorem d_Main_food_75 : decode prog_1_method_7_code 75 = .ok (.ireturn, 1) := by decide +kernel
theorem d_Main_food_76 : decode prog_1_method_7_code 76 = .ok (.aload_n 0, 1) := by decide +kernel
theorem d_Main_food_77 : decode prog_1_method_7_code 77 = .ok (.getfield 26, 3) := by decide +kernel
theorem d_Main_food_80 : decode prog_1_method_7_code 80 = .ok (.iload_n 1, 1) := by decide +kernel
theorem d_Main_food_81 : decode prog_1_method_7_code 81 = .ok (.iload_n 2, 1) := by decide +kernel
theorem d_Main_food_82 : decode prog_1_method_7_code 82 = .ok (.iconst 2, 1) := by decide +kernel
theorem d_Main_food_83 : decode prog_1_method_7_code 83 = .ok (.isub, 1) := by decide +kernel
theorem d_Main_food_84 : decode prog_1_method_7_code 84 = .ok (.invokevirtual 127, 3) := by decide +kernel
theorem d_Main_food_87 : decode prog_1_method_7_code 87 = .ok (.ireturn, 1) := by decide +kernel
theorem d_Main_food_88 : decode prog_1_method_7_code 88 = .ok (.iconst (-1), 1) := by decide +kernel
theorem d_Main_food_89 : decode prog_1_method_7_code 89 = .ok (.ireturn, 1) := by decide +kernel
theorem d_Main_dish_0 : decode prog_1_method_8_code 0 = .ok (.iload_n 1, 1) := by decide +kernel
theorem d_Main_dish_1 : decode prog_1_method_8_code 1 = .ok (.aload_n 0, 1) := by decide +kernel
theorem d_Main_dish_2 : decode prog_1_method_8_code 2 = .ok (.getfield 26, 3) := by decide +kernel
theorem d_Main_dish_5 : decode prog_1_method_8_code 5 = .ok (.getfield 131, 3) := by decide +kernel
theorem d_Main_dish_8 : decode prog_1_method_8_code 8 = .ok (.invokestatic 112, 3) := by decide +kernel
theorem d_Main_dish_11 : decode prog_1_method_8_code 11 = .ok (.ifCond .ne 5, 3) := by decide +kernel
theorem d_Main_dish_14 : decode prog_1_method_8_code 14 = .ok (.iconst (-1), 1) := by decide +kernel
theorem d_Main_dish_15 : decode prog_1_method_8_code 15 = .ok (.ireturn, 1) := by decide +kernel
theorem d_Main_dish_16 : decode prog_1_method_8_code 16 = .ok (.iload_n 2, 1) := by decide +kernel
theorem d_Main_dish_17 : decode prog_1_method_8_code 17 = .ok (.tableswitch 106 0 6 #[43, 55, 64, 73, 73, 73, 94], 43) := by decide +kernel
theorem d_Main_dish_60 : decode prog_1_method_8_code 60 = .ok (.aload_n 0, 1) := by decide +kernel
theorem d_Main_dish_61 : decode prog_1_method_8_code 61 = .ok (.getfield 26, 3) := by decide +kernel
theorem d_Main_dish_64 : decode prog_1_method_8_code 64 = .ok (.getfield 134, 3) := by decide +kernel
theorem d_Main_dish_67 : decode prog_1_method_8_code 67 = .ok (.iload_n 1, 1) := by decide +kernel
theorem d_Main_dish_68 : decode prog_1_method_8_code 68 = .ok (.invokestatic 120, 3) := by decide +kernel
theorem d_Main_dish_71 : decode prog_1_method_8_code 71 = .ok (.ireturn, 1) := by decide +kernel
theorem d_Main_dish_72 : decode prog_1_method_8_code 72 = .ok (.aload_n 0, 1) := by decide +kernel
theorem d_Main_dish_73 : decode prog_1_method_8_code 73 = .ok (.getfield 26, 3) := by decide +kernel
theorem d_Main_dish_76 : decode prog_1_method_8_code 76 = .ok (.iload_n 1, 1) := by decide +kernel
theorem d_Main_dish_77 : decode prog_1_method_8_code 77 = .ok (.invokevirtual 137, 3) := by decide +kernel
theorem d_Main_dish_80 : decode prog_1_method_8_code 80 = .ok (.ireturn, 1) := by decide +kernel
theorem d_Main_dish_81 : decode prog_1_method_8_code 81 = .ok (.aload_n 0, 1) := by decide +kernel
theorem d_Main_dish_82 : decode prog_1_method_8_code 82 = .ok (.getfield 26, 3) := by decide +kernel
theorem d_Main_dish_85 : decode prog_1_method_8_code 85 = .ok (.iload_n 1, 1) := by decide +kernel
theorem d_Main_dish_86 : decode prog_1_method_8_code 86 = .ok (.invokevirtual 141, 3) := by decide +kernel
theorem d_Main_dish_89 : decode prog_1_method_8_code 89 = .ok (.ireturn, 1) := by decide +kernel
theorem d_Main_dish_90 : decode prog_1_method_8_code 90 = .ok (.aload_n 0, 1) := by decide +kernel
theorem d_Main_dish_91 : decode prog_1_method_8_code 91 = .ok (.getfield 26, 3) := by decide +kernel
theorem d_Main_dish_94 : decode prog_1_method_8_code 94 = .ok (.iload_n 1, 1) := by decide +kernel
theorem d_Main_dish_95 : decode prog_1_method_8_code 95 = .ok (.bipush (-2), 2) := by decide +kernel
theorem d_Main_dish_97 : decode prog_1_method_8_code 97 = .ok (.iload_n 2, 1) := by decide +kernel
theorem d_Main_dish_98 : decode prog_1_method_8_code 98 = .ok (.iconst 3, 1) := by decide +kernel
theorem d_Main_dish_99 : decode prog_1_method_8_code 99 = .ok (.isub, 1) := by decide +kernel
theorem d_Main_dish_100 : decode prog_1_method_8_code 100 = .ok (.aload_n 0, 1) := by decide +kernel
theorem d_Main_dish_101 : decode prog_1_method_8_code 101 = .ok (.getfield 36, 3) := by decide +kernel
theorem d_Main_dish_104 : decode prog_1_method_8_code 104 = .ok (.getfield 144, 3) := by decide +kernel
theorem d_Main_dish_107 : decode prog_1_method_8_code 107 = .ok (.invokevirtual 147, 3) := by decide +kernel
theorem d_Main_dish_110 : decode prog_1_method_8_code 110 = .ok (.ireturn, 1) := by decide +kernel
theorem d_Main_dish_111 : decode prog_1_method_8_code 111 = .ok (.aload_n 0, 1) := by decide +kernel
theorem d_Main_dish_112 : decode prog_1_method_8_code 112 = .ok (.getfield 36, 3) := by decide +kernel
theorem d_Main_dish_115 : decode prog_1_method_8_code 115 = .ok (.getfield 151, 3) := by decide +kernel
theorem d_Main_dish_118 : decode prog_1_method_8_code 118 = .ok (.iload_n 1, 1) := by decide +kernel
theorem d_Main_dish_119 : decode prog_1_method_8_code 119 = .ok (.invokestatic 120, 3) := by decide +kernel
theorem d_Main_dish_122 : decode prog_1_method_8_code 122 = .ok (.ireturn, 1) := by decide +kernel
theorem d_Main_dish_123 : decode prog_1_method_8_code 123 = .ok (.iconst (-1), 1) := by decide +kernel
theorem d_Main_dish_124 : decode prog_1_method_8_code 124 = .ok (.ireturn, 1) := by decide +kernel
theorem d_Main_amount_0 : decode prog_1_method_9_code 0 = .ok (.iload_n 1, 1) := by decide +kernel
theorem d_Main_amount_1 : decode prog_1_method_9_code 1 = .ok (.aload_n 0, 1) := by decide +kernel
theorem d_Main_amount_2 : decode prog_1_method_9_code 2 = .ok (.getfield 26, 3) := by decide +kernel
theorem d_Main_amount_5 : decode prog_1_method_9_code 5 = .ok (.getfield 131, 3) := by decide +kernel
theorem d_Main_amount_8 : decode prog_1_method_9_code 8 = .ok (.invokestatic 112, 3) := by decide +kernel
theorem d_Main_amount_11 : decode prog_1_method_9_code 11 = .ok (.ifCond .eq 17, 3) := by decide +kernel
theorem d_Main_amount_14 : decode prog_1_method_9_code 14 = .ok (.iload_n 2, 1) := by decide +kernel
theorem d_Main_amount_15 : decode prog_1_method_9_code 15 = .ok (.aload_n 0, 1) := by decide +kernel
theorem d_Main_amount_16 : decode prog_1_method_9_code 16 = .ok (.getfield 26, 3) := by decide +kernel
theorem d_Main_amount_19 : decode prog_1_method_9_code 19 = .ok (.getfield 109, 3) := by decide +kernel
theorem d_Main_amount_22 : decode prog_1_method_9_code 22 = .ok (.invokestatic 112, 3) := by decide +kernel
theorem d_Main_amount_25 : decode prog_1_method_9_code 25 = .ok (.ifCond .ne 5, 3) := by decide +kernel
theorem d_Main_amount_28 : decode prog_1_method_9_code 28 = .ok (.iconst (-1), 1) := by decide +kernel
theorem d_Main_amount_29 : decode prog_1_method_9_code 29 = .ok (.ireturn, 1) := by decide +kernel
theorem d_Main_amount_30 : decode prog_1_method_9_code 30 = .ok (.aload_n 0, 1) := by decide +kernel
theorem d_Main_amount_31 : decode prog_1_method_9_code 31 = .ok (.getfield 26, 3) := by decide +kernel
theorem d_Main_amount_34 : decode prog_1_method_9_code 34 = .ok (.iload_n 1, 1) := by decide +kernel
theorem d_Main_amount_35 : decode prog_1_method_9_code 35 = .ok (.iload_n 2, 1) := by decide +kernel
theorem d_Main_amount_36 : decode prog_1_method_9_code 36 = .ok (.invokevirtual 154, 3) := by decide +kernel
theorem d_Main_amount_39 : decode prog_1_method_9_code 39 = .ok (.ireturn, 1) := by decide +kernel
theorem d_Main_guest_0 : decode prog_1_method_10_code 0 = .ok (.iload_n 1, 1) := by decide +kernel
theorem d_Main_guest_1 : decode prog_1_method_10_code 1 = .ok (.aload_n 0, 1) := by decide +kernel
theorem d_Main_guest_2 : decode prog_1_method_10_code 2 = .ok (.getfield 26, 3) := by decide +kernel
theorem d_Main_guest_5 : decode prog_1_method_10_code 5 = .ok (.getfield 157, 3) := by decide +kernel
theorem d_Main_guest_8 : decode prog_1_method_10_code 8 = .ok (.invokestatic 112, 3) := by decide +kernel
theorem d_Main_guest_11 : decode prog_1_method_10_code 11 = .ok (.ifCond .ne 5, 3) := by decide +kernel
theorem d_Main_guest_14 : decode prog_1_method_10_code 14 = .ok (.iconst (-1), 1) := by decide +kernel
theorem d_Main_guest_15 : decode prog_1_method_10_code 15 = .ok (.ireturn, 1) := by decide +kernel
theorem d_Main_guest_16 : decode prog_1_method_10_code 16 = .ok (.iload_n 2, 1) := by decide +kernel
theorem d_Main_guest_17 : decode prog_1_method_10_code 17 = .ok (.tableswitch 105 0 5 #[39, 51, 76, 88, 88, 88], 39) := by decide +kernel
theorem d_Main_guest_56 : decode prog_1_method_10_code 56 = .ok (.aload_n 0, 1) := by decide +kernel
theorem d_Main_guest_57 : decode prog_1_method_10_code 57 = .ok (.getfield 26, 3) := by decide +kernel
theorem d_Main_guest_60 : decode prog_1_method_10_code 60 = .ok (.getfield 160, 3) := by decide +kernel
theorem d_Main_guest_63 : decode prog_1_method_10_code 63 = .ok (.iload_n 1, 1) := by decide +kernel
theorem d_Main_guest_64 : decode prog_1_method_10_code 64 = .ok (.invokestatic 120, 3) := by decide +kernel
theorem d_Main_guest_67 : decode prog_1_method_10_code 67 = .ok (.ireturn, 1) := by decide +kernel
theorem d_Main_guest_68 : decode prog_1_method_10_code 68 = .ok (.aload_n 0, 1) := by decide +kernel
theorem d_Main_guest_69 : decode prog_1_method_10_code 69 = .ok (.getfield 36, 3) := by decide +kernel
theorem d_Main_guest_72 : decode prog_1_method_10_code 72 = .ok (.iload_n 1, 1) := by decide +kernel
theorem d_Main_guest_73 : decode prog_1_method_10_code 73 = .ok (.invokevirtual 163, 3) := by decide +kernel
theorem d_Main_guest_76 : decode prog_1_method_10_code 76 = .ok (.ifCond .eq 14, 3) := by decide +kernel
theorem d_Main_guest_79 : decode prog_1_method_10_code 79 = .ok (.aload_n 0, 1) := by decide +kernel
theorem d_Main_guest_80 : decode prog_1_method_10_code 80 = .ok (.getfield 36, 3) := by decide +kernel
theorem d_Main_guest_83 : decode prog_1_method_10_code 83 = .ok (.iload_n 1, 1) := by decide +kernel
theorem d_Main_guest_84 : decode prog_1_method_10_code 84 = .ok (.invokevirtual 167, 3) := by decide +kernel
theorem d_Main_guest_87 : decode prog_1_method_10_code 87 = .ok (.goto 5, 3) := by decide +kernel
theorem d_Main_guest_90 : decode prog_1_method_10_code 90 = .ok (.bipush (-2), 2) := by decide +kernel
theorem d_Main_guest_92 : decode prog_1_method_10_code 92 = .ok (.ireturn, 1) := by decide +kernel
theorem d_Main_guest_93 : decode prog_1_method_10_code 93 = .ok (.aload_n 0, 1) := by decide +kernel
theorem d_Main_guest_94 : decode prog_1_method_10_code 94 = .ok (.getfield 36, 3) := by decide +kernel
theorem d_Main_guest_97 : decode prog_1_method_10_code 97 = .ok (.getfield 170, 3) := by decide +kernel
theorem d_Main_guest_100 : decode prog_1_method_10_code 100 = .ok (.iload_n 1, 1) := by decide +kernel
theorem d_Main_guest_101 : decode prog_1_method_10_code 101 = .ok (.invokestatic 120, 3) := by decide +kernel
theorem d_Main_guest_104 : decode prog_1_method_10_code 104 = .ok (.ireturn, 1) := by decide +kernel
theorem d_Main_guest_105 : decode prog_1_method_10_code 105 = .ok (.aload_n 0, 1) := by decide +kernel
theorem d_Main_guest_106 : decode prog_1_method_10_code 106 = .ok (.getfield 36, 3) := by decide +kernel
theorem d_Main_guest_109 : decode prog_1_method_10_code 109 = .ok (.aload_n 0, 1) := by decide +kernel
theorem d_Main_guest_110 : decode prog_1_method_10_code 110 = .ok (.getfield 26, 3) := by decide +kernel
theorem d_Main_guest_113 : decode prog_1_method_10_code 113 = .ok (.iload_n 1, 1) := by decide +kernel
theorem d_Main_guest_114 : decode prog_1_method_10_code 114 = .ok (.iload_n 2, 1) := by decide +kernel
theorem d_Main_guest_115 : decode prog_1_method_10_code 115 = .ok (.iconst 3, 1) := by decide +kernel
theorem d_Main_guest_116 : decode prog_1_method_10_code 116 = .ok (.isub, 1) := by decide +kernel
theorem d_Main_guest_117 : decode prog_1_method_10_code 117 = .ok (.iconst 0, 1) := by decide +kernel
theorem d_Main_guest_118 : decode prog_1_method_10_code 118 = .ok (.invokevirtual 173, 3) := by decide +kernel
theorem d_Main_guest_121 : decode prog_1_method_10_code 121 = .ok (.ireturn, 1) := by decide +kernel
theorem d_Main_guest_122 : decode prog_1_method_10_code 122 = .ok (.iconst (-1), 1) := by decide +kernel
theorem d_Main_guest_123 : decode prog_1_method_10_code 123 = .ok (.ireturn, 1) := by decide +kernel
theorem d_Main_deed_0 : decode prog_1_method_11_code 0 = .ok (.iload_n 1, 1) := by decide +kernel
theorem d_Main_deed_1 : decode prog_1_method_11_code 1 = .ok (.aload_n 0, 1) := by decide +kernel
theorem d_Main_deed_2 : decode prog_1_method_11_code 2 = .ok (.getfield 26, 3) := by decide +kernel
theorem d_Main_deed_5 : decode prog_1_method_11_code 5 = .ok (.getfield 177, 3) := by decide +kernel
theorem d_Main_deed_8 : decode prog_1_method_11_code 8 = .ok (.invokestatic 112, 3) := by decide +kernel
theorem d_Main_deed_11 : decode prog_1_method_11_code 11 = .ok (.ifCond .ne 5, 3) := by decide +kernel
theorem d_Main_deed_14 : decode prog_1_method_11_code 14 = .ok (.iconst (-1), 1) := by decide +kernel
theorem d_Main_deed_15 : decode prog_1_method_11_code 15 = .ok (.ireturn, 1) := by decide +kernel
theorem d_Main_deed_16 : decode prog_1_method_11_code 16 = .ok (.iload_n 2, 1) := by decide +kernel
theorem d_Main_deed_17 : decode prog_1_method_11_code 17 = .ok (.tableswitch 57 0 2 #[27, 39, 51], 27) := by decide +kernel
theorem d_Main_deed_44 : decode prog_1_method_11_code 44 = .ok (.aload_n 0, 1) := by decide +kernel
theorem d_Main_deed_45 : decode prog_1_method_11_code 45 = .ok (.getfield 26, 3) := by decide +kernel
theorem d_Main_deed_48 : decode prog_1_method_11_code 48 = .ok (.getfield 180, 3) := by decide +kernel
theorem d_Main_deed_51 : decode prog_1_method_11_code 51 = .ok (.iload_n 1, 1) := by decide +kernel
theorem d_Main_deed_52 : decode prog_1_method_11_code 52 = .ok (.invokestatic 120, 3) := by decide +kernel
theorem d_Main_deed_55 : decode prog_1_method_11_code 55 = .ok (.ireturn, 1) := by decide +kernel
theorem d_Main_deed_56 : decode prog_1_method_11_code 56 = .ok (.aload_n 0, 1) := by decide +kernel
theorem d_Main_deed_57 : decode prog_1_method_11_code 57 = .ok (.getfield 26, 3) := by decide +kernel
theorem d_Main_deed_60 : decode prog_1_method_11_code 60 = .ok (.getfield 183, 3) := by decide +kernel
theorem d_Main_deed_63 : decode prog_1_method_11_code 63 = .ok (.iload_n 1, 1) := by decide +kernel
theorem d_Main_deed_64 : decode prog_1_method_11_code 64 = .ok (.invokestatic 120, 3) := by decide +kernel
theorem d_Main_deed_67 : decode prog_1_method_11_code 67 = .ok (.ireturn, 1) := by decide +kernel
theorem d_Main_deed_68 : decode prog_1_method_11_code 68 = .ok (.aload_n 0, 1) := by decide +kernel
theorem d_Main_deed_69 : decode prog_1_method_11_code 69 = .ok (.iload_n 1, 1) := by decide +kernel
theorem d_Main_deed_70 : decode prog_1_method_11_code 70 = .ok (.invokevirtual 186, 3) := by decide +kernel
theorem d_Main_deed_73 : decode prog_1_method_11_code 73 = .ok (.ireturn, 1) := by decide +kernel
theorem d_Main_deed_74 : decode prog_1_method_11_code 74 = .ok (.iconst (-1), 1) := by decide +kernel
theorem d_Main_deed_75 : decode prog_1_method_11_code 75 = .ok (.ireturn, 1) := by decide +kernel
theorem d_Main_guestsFreeTo_0 : decode prog_1_method_12_code 0 = .ok (.iconst 0, 1) := by decide +kernel
theorem d_Main_guestsFreeTo_1 : decode prog_1_method_12_code 1 = .ok (.istore_n 2, 1) := by decide +kernel
theorem d_Main_guestsFreeTo_2 : decode prog_1_method_12_code 2 = .ok (.iconst 0, 1) := by decide +kernel
theorem d_Main_guestsFreeTo_3 : decode prog_1_method_12_code 3 = .ok (.istore_n 3, 1) := by decide +kernel
theorem d_Main_guestsFreeTo_4 : decode prog_1_method_12_code 4 = .ok (.iload_n 3, 1) := by decide +kernel
theorem d_Main_guestsFreeTo_5 : decode prog_1_method_12_code 5 = .ok (.aload_n 0, 1) := by decide +kernel
theorem d_Main_guestsFreeTo_6 : decode prog_1_method_12_code 6 = .ok (.getfield 26, 3) := by decide +kernel
theorem d_Main_guestsFreeTo_9 : decode prog_1_method_12_code 9 = .ok (.getfield 157, 3) := by decide +kernel
theorem d_Main_guestsFreeTo_12 : decode prog_1_method_12_code 12 = .ok (.if_icmp .ge 35, 3) := by decide +kernel
theorem d_Main_guestsFreeTo_15 : decode prog_1_method_12_code 15 = .ok (.aload_n 0, 1) := by decide +kernel
theorem d_Main_guestsFreeTo_16 : decode prog_1_method_12_code 16 = .ok (.getfield 36, 3) := by decide +kernel
theorem d_Main_guestsFreeTo_19 : decode prog_1_method_12_code 19 = .ok (.aload_n 0, 1) := by decide +kernel
theorem d_Main_guestsFreeTo_20 : decode prog_1_method_12_code 20 = .ok (.getfield 26, 3) := by decide +kernel
theorem d_Main_guestsFreeTo_23 : decode prog_1_method_12_code 23 = .ok (.iload_n 3, 1) := by decide +kernel
theorem d_Main_guestsFreeTo_24 : decode prog_1_method_12_code 24 = .ok (.iconst 0, 1) := by decide +kernel
theorem d_Main_guestsFreeTo_25 : decode prog_1_method_12_code 25 = .ok (.invokevirtual 189, 3) := by decide +kernel
theorem d_Main_guestsFreeTo_28 : decode prog_1_method_12_code 28 = .ok (.iload_n 1, 1) := by decide +kernel
theorem d_Main_guestsFreeTo_29 : decode prog_1_method_12_code 29 = .ok (.invokestatic 193, 3) := by decide +kernel
theorem d_Main_guestsFreeTo_32 : decode prog_1_method_12_code 32 = .ok (.ifCond .eq 9, 3) := by decide +kernel
theorem d_Main_guestsFreeTo_35 : decode prog_1_method_12_code 35 = .ok (.iload_n 2, 1) := by decide +kernel
theorem d_Main_guestsFreeTo_36 : decode prog_1_method_12_code 36 = .ok (.iconst 1, 1) := by decide +kernel
theorem d_Main_guestsFreeTo_37 : decode prog_1_method_12_code 37 = .ok (.iload_n 3, 1) := by decide +kernel
theorem d_Main_guestsFreeTo_38 : decode prog_1_method_12_code 38 = .ok (.ishl, 1) := by decide +kernel
theorem d_Main_guestsFreeTo_39 : decode prog_1_method_12_code 39 = .ok (.ior, 1) := by decide +kernel
theorem d_Main_guestsFreeTo_40 : decode prog_1_method_12_code 40 = .ok (.istore_n 2, 1) := by decide +kernel
theorem d_Main_guestsFreeTo_41 : decode prog_1_method_12_code 41 = .ok (.iinc 3 1, 3) := by decide +kernel
theorem d_Main_guestsFreeTo_44 : decode prog_1_method_12_code 44 = .ok (.goto (-40), 3) := by decide +kernel
theorem d_Main_guestsFreeTo_47 : decode prog_1_method_12_code 47 = .ok (.iload_n 2, 1) := by decide +kernel
theorem d_Main_guestsFreeTo_48 : decode prog_1_method_12_code 48 = .ok (.ireturn, 1) := by decide +kernel
theorem d_Main_cook_0 : decode prog_1_method_13_code 0 = .ok (.iload_n 1, 1) := by decide +kernel
theorem d_Main_cook_1 : decode prog_1_method_13_code 1 = .ok (.aload_n 0, 1) := by decide +kernel
theorem d_Main_cook_2 : decode prog_1_method_13_code 2 = .ok (.getfield 26, 3) := by decide +kernel
theorem d_Main_cook_5 : decode prog_1_method_13_code 5 = .ok (.getfield 131, 3) := by decide +kernel
theorem d_Main_cook_8 : decode prog_1_method_13_code 8 = .ok (.invokestatic 112, 3) := by decide +kernel
theorem d_Main_cook_11 : decode prog_1_method_13_code 11 = .ok (.ifCond .ne 5, 3) := by decide +kernel
theorem d_Main_cook_14 : decode prog_1_method_13_code 14 = .ok (.iconst (-1), 1) := by decide +kernel
theorem d_Main_cook_15 : decode prog_1_method_13_code 15 = .ok (.ireturn, 1) := by decide +kernel
theorem d_Main_cook_16 : decode prog_1_method_13_code 16 = .ok (.aload_n 0, 1) := by decide +kernel
theorem d_Main_cook_17 : decode prog_1_method_13_code 17 = .ok (.getfield 36, 3) := by decide +kernel
theorem d_Main_cook_20 : decode prog_1_method_13_code 20 = .ok (.aload_n 0, 1) := by decide +kernel
theorem d_Main_cook_21 : decode prog_1_method_13_code 21 = .ok (.getfield 26, 3) := by decide +kernel
theorem d_Main_cook_24 : decode prog_1_method_13_code 24 = .ok (.iload_n 1, 1) := by decide +kernel
theorem d_Main_cook_25 : decode prog_1_method_13_code 25 = .ok (.invokevirtual 196, 3) := by decide +kernel
theorem d_Main_cook_28 : decode prog_1_method_13_code 28 = .ok (.ifCond .ne 6, 3) := by decide +kernel
theorem d_Main_cook_31 : decode prog_1_method_13_code 31 = .ok (.bipush (-3), 2) := by decide +kernel
theorem d_Main_cook_33 : decode prog_1_method_13_code 33 = .ok (.ireturn, 1) := by decide +kernel
theorem d_Main_cook_34 : decode prog_1_method_13_code 34 = .ok (.aload_n 0, 1) := by decide +kernel
theorem d_Main_cook_35 : decode prog_1_method_13_code 35 = .ok (.getfield 46, 3) := by decide +kernel
theorem d_Main_cook_38 : decode prog_1_method_13_code 38 = .ok (.aload_n 0, 1) := by decide +kernel
theorem d_Main_cook_39 : decode prog_1_method_13_code 39 = .ok (.getfield 36, 3) := by decide +kernel
theorem d_Main_cook_42 : decode prog_1_method_13_code 42 = .ok (.invokevirtual 200, 3) := by decide +kernel
theorem d_Main_cook_45 : decode prog_1_method_13_code 45 = .ok (.aload_n 0, 1) := by decide +kernel
theorem d_Main_cook_46 : decode prog_1_method_13_code 46 = .ok (.getfield 36, 3) := by decide +kernel
theorem d_Main_cook_49 : decode prog_1_method_13_code 49 = .ok (.aload_n 0, 1) := by decide +kernel
theorem d_Main_cook_50 : decode prog_1_method_13_code 50 = .ok (.getfield 26, 3) := by decide +kernel
theorem d_Main_cook_53 : decode prog_1_method_13_code 53 = .ok (.iload_n 1, 1) := by decide +kernel
theorem d_Main_cook_54 : decode prog_1_method_13_code 54 = .ok (.invokevirtual 204, 3) := by decide +kernel
theorem d_Main_cook_57 : decode prog_1_method_13_code 57 = .ok (.ireturn, 1) := by decide +kernel
theorem d_Main_eat_0 : decode prog_1_method_14_code 0 = .ok (.iload_n 1, 1) := by decide +kernel
theorem d_Main_eat_1 : decode prog_1_method_14_code 1 = .ok (.aload_n 0, 1) := by decide +kernel
theorem d_Main_eat_2 : decode prog_1_method_14_code 2 = .ok (.getfield 26, 3) := by decide +kernel
theorem d_Main_eat_5 : decode prog_1_method_14_code 5 = .ok (.getfield 157, 3) := by decide +kernel
theorem d_Main_eat_8 : decode prog_1_method_14_code 8 = .ok (.invokestatic 112, 3) := by decide +kernel
theorem d_Main_eat_11 : decode prog_1_method_14_code 11 = .ok (.ifCond .ne 5, 3) := by decide +kernel
theorem d_Main_eat_14 : decode prog_1_method_14_code 14 = .ok (.iconst (-1), 1) := by decide +kernel
theorem d_Main_eat_15 : decode prog_1_method_14_code 15 = .ok (.ireturn, 1) := by decide +kernel
theorem d_Main_eat_16 : decode prog_1_method_14_code 16 = .ok (.aload_n 0, 1) := by decide +kernel
theorem d_Main_eat_17 : decode prog_1_method_14_code 17 = .ok (.getfield 36, 3) := by decide +kernel
theorem d_Main_eat_20 : decode prog_1_method_14_code 20 = .ok (.getfield 208, 3) := by decide +kernel
theorem d_Main_eat_23 : decode prog_1_method_14_code 23 = .ok (.ifCond .ge 6, 3) := by decide +kernel
theorem d_Main_eat_26 : decode prog_1_method_14_code 26 = .ok (.bipush (-2), 2) := by decide +kernel
theorem d_Main_eat_28 : decode prog_1_method_14_code 28 = .ok (.ireturn, 1) := by decide +kernel
theorem d_Main_eat_29 : decode prog_1_method_14_code 29 = .ok (.aload_n 0, 1) := by decide +kernel
theorem d_Main_eat_30 : decode prog_1_method_14_code 30 = .ok (.getfield 46, 3) := by decide +kernel
theorem d_Main_eat_33 : decode prog_1_method_14_code 33 = .ok (.aload_n 0, 1) := by decide +kernel
theorem d_Main_eat_34 : decode prog_1_method_14_code 34 = .ok (.getfield 36, 3) := by decide +kernel
theorem d_Main_eat_37 : decode prog_1_method_14_code 37 = .ok (.invokevirtual 200, 3) := by decide +kernel
theorem d_Main_eat_40 : decode prog_1_method_14_code 40 = .ok (.aload_n 0, 1) := by decide +kernel
theorem d_Main_eat_41 : decode prog_1_method_14_code 41 = .ok (.getfield 36, 3) := by decide +kernel
theorem d_Main_eat_44 : decode prog_1_method_14_code 44 = .ok (.iload_n 1, 1) := by decide +kernel
theorem d_Main_eat_45 : decode prog_1_method_14_code 45 = .ok (.invokevirtual 211, 3) := by decide +kernel
theorem d_Main_eat_48 : decode prog_1_method_14_code 48 = .ok (.aload_n 0, 1) := by decide +kernel
theorem d_Main_eat_49 : decode prog_1_method_14_code 49 = .ok (.getfield 36, 3) := by decide +kernel
theorem d_Main_eat_52 : decode prog_1_method_14_code 52 = .ok (.aload_n 0, 1) := by decide +kernel
theorem d_Main_eat_53 : decode prog_1_method_14_code 53 = .ok (.getfield 26, 3) := by decide +kernel
theorem d_Main_eat_56 : decode prog_1_method_14_code 56 = .ok (.iload_n 1, 1) := by decide +kernel
theorem d_Main_eat_57 : decode prog_1_method_14_code 57 = .ok (.iconst 0, 1) := by decide +kernel
theorem d_Main_eat_58 : decode prog_1_method_14_code 58 = .ok (.invokevirtual 189, 3) := by decide +kernel
theorem d_Main_eat_61 : decode prog_1_method_14_code 61 = .ok (.ireturn, 1) := by decide +kernel
theorem d_Main_days_0 : decode prog_1_method_15_code 0 = .ok (.iload_n 1, 1) := by decide +kernel
theorem d_Main_days_1 : decode prog_1_method_15_code 1 = .ok (.ifCond .lt 9, 3) := by decide +kernel
theorem d_Main_days_4 : decode prog_1_method_15_code 4 = .ok (.iload_n 1, 1) := by decide +kernel
theorem d_Main_days_5 : decode prog_1_method_15_code 5 = .ok (.bipush 60, 2) := by decide +kernel
theorem d_Main_days_7 : decode prog_1_method_15_code 7 = .ok (.if_icmp .le 5, 3) := by decide +kernel
theorem d_Main_days_10 : decode prog_1_method_15_code 10 = .ok (.iconst (-1), 1) := by decide +kernel
theorem d_Main_days_11 : decode prog_1_method_15_code 11 = .ok (.ireturn, 1) := by decide +kernel
theorem d_Main_days_12 : decode prog_1_method_15_code 12 = .ok (.iload_n 1, 1) := by decide +kernel
theorem d_Main_days_13 : decode prog_1_method_15_code 13 = .ok (.ifCond .le 26, 3) := by decide +kernel
theorem d_Main_days_16 : decode prog_1_method_15_code 16 = .ok (.aload_n 0, 1) := by decide +kernel
theorem d_Main_days_17 : decode prog_1_method_15_code 17 = .ok (.getfield 46, 3) := by decide +kernel
theorem d_Main_days_20 : decode prog_1_method_15_code 20 = .ok (.aload_n 0, 1) := by decide +kernel
theorem d_Main_days_21 : decode prog_1_method_15_code 21 = .ok (.getfield 36, 3) := by decide +kernel
theorem d_Main_days_24 : decode prog_1_method_15_code 24 = .ok (.invokevirtual 200, 3) := by decide +kernel
theorem d_Main_days_27 : decode prog_1_method_15_code 27 = .ok (.aload_n 0, 1) := by decide +kernel
theorem d_Main_days_28 : decode prog_1_method_15_code 28 = .ok (.getfield 36, 3) := by decide +kernel
theorem d_Main_days_31 : decode prog_1_method_15_code 31 = .ok (.aload_n 0, 1) := by decide +kernel
theorem d_Main_days_32 : decode prog_1_method_15_code 32 = .ok (.getfield 26, 3) := by decide +kernel
theorem d_Main_days_35 : decode prog_1_method_15_code 35 = .ok (.iload_n 1, 1) := by decide +kernel
theorem d_Main_days_36 : decode prog_1_method_15_code 36 = .ok (.invokevirtual 214, 3) := by decide +kernel
theorem d_Main_days_39 : decode prog_1_method_15_code 39 = .ok (.aload_n 0, 1) := by decide +kernel
theorem d_Main_days_40 : decode prog_1_method_15_code 40 = .ok (.getfield 36, 3) := by decide +kernel
theorem d_Main_days_43 : decode prog_1_method_15_code 43 = .ok (.getfield 144, 3) := by decide +kernel
theorem d_Main_days_46 : decode prog_1_method_15_code 46 = .ok (.ireturn, 1) := by decide +kernel
theorem d_Main_undo_0 : decode prog_1_method_16_code 0 = .ok (.aload_n 0, 1) := by decide +kernel
theorem d_Main_undo_1 : decode prog_1_method_16_code 1 = .ok (.getfield 46, 3) := by decide +kernel
theorem d_Main_undo_4 : decode prog_1_method_16_code 4 = .ok (.aload_n 0, 1) := by decide +kernel
theorem d_Main_undo_5 : decode prog_1_method_16_code 5 = .ok (.getfield 36, 3) := by decide +kernel
theorem d_Main_undo_8 : decode prog_1_method_16_code 8 = .ok (.invokevirtual 218, 3) := by decide +kernel
theorem d_Main_undo_11 : decode prog_1_method_16_code 11 = .ok (.ireturn, 1) := by decide +kernel
theorem d_Main_pot_0 : decode prog_1_method_17_code 0 = .ok (.iload_n 1, 1) := by decide +kernel
theorem d_Main_pot_1 : decode prog_1_method_17_code 1 = .ok (.bipush 100, 2) := by decide +kernel
theorem d_Main_pot_3 : decode prog_1_method_17_code 3 = .ok (.invokestatic 112, 3) := by decide +kernel
theorem d_Main_pot_6 : decode prog_1_method_17_code 6 = .ok (.ifCond .eq 31, 3) := by decide +kernel
theorem d_Main_pot_9 : decode prog_1_method_17_code 9 = .ok (.iload_n 2, 1) := by decide +kernel
theorem d_Main_pot_10 : decode prog_1_method_17_code 10 = .ok (.bipush 100, 2) := by decide +kernel
theorem d_Main_pot_12 : decode prog_1_method_17_code 12 = .ok (.invokestatic 112, 3) := by decide +kernel
theorem d_Main_pot_15 : decode prog_1_method_17_code 15 = .ok (.ifCond .eq 22, 3) := by decide +kernel
theorem d_Main_pot_18 : decode prog_1_method_17_code 18 = .ok (.iload_n 3, 1) := by decide +kernel
theorem d_Main_pot_19 : decode prog_1_method_17_code 19 = .ok (.bipush 100, 2) := by decide +kernel
theorem d_Main_pot_21 : decode prog_1_method_17_code 21 = .ok (.invokestatic 112, 3) := by decide +kernel
theorem d_Main_pot_24 : decode prog_1_method_17_code 24 = .ok (.ifCond .eq 13, 3) := by decide +kernel
theorem d_Main_pot_27 : decode prog_1_method_17_code 27 = .ok (.iload 4, 2) := by decide +kernel
theorem d_Main_pot_29 : decode prog_1_method_17_code 29 = .ok (.bipush 8, 2) := by decide +kernel
theorem d_Main_pot_31 : decode prog_1_method_17_code 31 = .ok (.invokestatic 112, 3) := by decide +kernel
theorem d_Main_pot_34 : decode prog_1_method_17_code 34 = .ok (.ifCond .ne 5, 3) := by decide +kernel
theorem d_Main_pot_37 : decode prog_1_method_17_code 37 = .ok (.iconst (-1), 1) := by decide +kernel
theorem d_Main_pot_38 : decode prog_1_method_17_code 38 = .ok (.ireturn, 1) := by decide +kernel
theorem d_Main_pot_39 : decode prog_1_method_17_code 39 = .ok (.aload_n 0, 1) := by decide +kernel
theorem d_Main_pot_40 : decode prog_1_method_17_code 40 = .ok (.getfield 67, 3) := by decide +kernel
theorem d_Main_pot_43 : decode prog_1_method_17_code 43 = .ok (.aload_n 0, 1) := by decide +kernel
theorem d_Main_pot_44 : decode prog_1_method_17_code 44 = .ok (.getfield 26, 3) := by decide +kernel
theorem d_Main_pot_47 : decode prog_1_method_17_code 47 = .ok (.aload_n 0, 1) := by decide +kernel
theorem d_Main_pot_48 : decode prog_1_method_17_code 48 = .ok (.getfield 36, 3) := by decide +kernel
theorem d_Main_pot_51 : decode prog_1_method_17_code 51 = .ok (.iload_n 1, 1) := by decide +kernel
theorem d_Main_pot_52 : decode prog_1_method_17_code 52 = .ok (.iload_n 2, 1) := by decide +kernel
theorem d_Main_pot_53 : decode prog_1_method_17_code 53 = .ok (.iload_n 3, 1) := by decide +kernel
theorem d_Main_pot_54 : decode prog_1_method_17_code 54 = .ok (.invokevirtual 222, 3) := by decide +kernel
theorem d_Main_pot_57 : decode prog_1_method_17_code 57 = .ok (.ifCond .ne 6, 3) := by decide +kernel
theorem d_Main_pot_60 : decode prog_1_method_17_code 60 = .ok (.bipush (-2), 2) := by decide +kernel
theorem d_Main_pot_62 : decode prog_1_method_17_code 62 = .ok (.ireturn, 1) := by decide +kernel
theorem d_Main_pot_63 : decode prog_1_method_17_code 63 = .ok (.iload 4, 2) := by decide +kernel
theorem d_Main_pot_65 : decode prog_1_method_17_code 65 = .ok (.ifCond .ne 11, 3) := by decide +kernel
theorem d_Main_pot_68 : decode prog_1_method_17_code 68 = .ok (.aload_n 0, 1) := by decide +kernel
theorem d_Main_pot_69 : decode prog_1_method_17_code 69 = .ok (.getfield 67, 3) := by decide +kernel
theorem d_Main_pot_72 : decode prog_1_method_17_code 72 = .ok (.getfield 226, 3) := by decide +kernel
theorem d_Main_pot_75 : decode prog_1_method_17_code 75 = .ok (.ireturn, 1) := by decide +kernel
theorem d_Main_pot_76 : decode prog_1_method_17_code 76 = .ok (.iload 4, 2) := by decide +kernel
theorem d_Main_pot_78 : decode prog_1_method_17_code 78 = .ok (.iconst 1, 1) := by decide +kernel
theorem d_Main_pot_79 : decode prog_1_method_17_code 79 = .ok (.if_icmp .ne 13, 3) := by decide +kernel
theorem d_Main_pot_82 : decode prog_1_method_17_code 82 = .ok (.aload_n 0, 1) := by decide +kernel
theorem d_Main_pot_83 : decode prog_1_method_17_code 83 = .ok (.getfield 67, 3) := by decide +kernel
theorem d_Main_pot_86 : decode prog_1_method_17_code 86 = .ok (.getfield 229, 3) := by decide +kernel
theorem d_Main_pot_89 : decode prog_1_method_17_code 89 = .ok (.goto 17, 3) := by decide +kernel
theorem d_Main_pot_92 : decode prog_1_method_17_code 92 = .ok (.aload_n 0, 1) := by decide +kernel
theorem d_Main_pot_93 : decode prog_1_method_17_code 93 = .ok (.getfield 67, 3) := by decide +kernel
theorem d_Main_pot_96 : decode prog_1_method_17_code 96 = .ok (.getfield 232, 3) := by decide +kernel
theorem d_Main_pot_99 : decode prog_1_method_17_code 99 = .ok (.iload 4, 2) := by decide +kernel
theorem d_Main_pot_101 : decode prog_1_method_17_code 101 = .ok (.iconst 2, 1) := by decide +kernel
theorem d_Main_pot_102 : decode prog_1_method_17_code 102 = .ok (.isub, 1) := by decide +kernel
theorem d_Main_pot_103 : decode prog_1_method_17_code 103 = .ok (.invokestatic 120, 3) := by decide +kernel
theorem d_Main_pot_106 : decode prog_1_method_17_code 106 = .ok (.ireturn, 1) := by decide +kernel
theorem d_Main_pinch_0 : decode prog_1_method_18_code 0 = .ok (.iload_n 1, 1) := by decide +kernel
theorem d_Main_pinch_1 : decode prog_1_method_18_code 1 = .ok (.aload_n 0, 1) := by decide +kernel
theorem d_Main_pinch_2 : decode prog_1_method_18_code 2 = .ok (.getfield 26, 3) := by decide +kernel
theorem d_Main_pinch_5 : decode prog_1_method_18_code 5 = .ok (.getfield 131, 3) := by decide +kernel
theorem d_Main_pinch_8 : decode prog_1_method_18_code 8 = .ok (.invokestatic 112, 3) := by decide +kernel
theorem d_Main_pinch_11 : decode prog_1_method_18_code 11 = .ok (.ifCond .eq 11, 3) := by decide +kernel
theorem d_Main_pinch_14 : decode prog_1_method_18_code 14 = .ok (.iload_n 2, 1) := by decide +kernel
theorem d_Main_pinch_15 : decode prog_1_method_18_code 15 = .ok (.iconst 2, 1) := by decide +kernel
theorem d_Main_pinch_16 : decode prog_1_method_18_code 16 = .ok (.invokestatic 112, 3) := by decide +kernel
theorem d_Main_pinch_19 : decode prog_1_method_18_code 19 = .ok (.ifCond .ne 5, 3) := by decide +kernel
theorem d_Main_pinch_22 : decode prog_1_method_18_code 22 = .ok (.iconst (-1), 1) := by decide +kernel
theorem d_Main_pinch_23 : decode prog_1_method_18_code 23 = .ok (.ireturn, 1) := by decide +kernel
theorem d_Main_pinch_24 : decode prog_1_method_18_code 24 = .ok (.iconst (-1), 1) := by decide +kernel
theorem d_Main_pinch_25 : decode prog_1_method_18_code 25 = .ok (.istore_n 3, 1) := by decide +kernel
theorem d_Main_pinch_26 : decode prog_1_method_18_code 26 = .ok (.iconst (-1), 1) := by decide +kernel
theorem d_Main_pinch_27 : decode prog_1_method_18_code 27 = .ok (.istore 4, 2) := by decide +kernel
theorem d_Main_pinch_29 : decode prog_1_method_18_code 29 = .ok (.iconst 0, 1) := by decide +kernel
theorem d_Main_pinch_30 : decode prog_1_method_18_code 30 = .ok (.istore 5, 2) := by decide +kernel
theorem d_Main_pinch_32 : decode prog_1_method_18_code 32 = .ok (.iload 5, 2) := by decide +kernel
theorem d_Main_pinch_34 : decode prog_1_method_18_code 34 = .ok (.aload_n 0, 1) := by decide +kernel
theorem d_Main_pinch_35 : decode prog_1_method_18_code 35 = .ok (.getfield 26, 3) := by decide +kernel
theorem d_Main_pinch_38 : decode prog_1_method_18_code 38 = .ok (.getfield 109, 3) := by decide +kernel
theorem d_Main_pinch_41 : decode prog_1_method_18_code 41 = .ok (.if_icmp .ge 31, 3) := by decide +kernel
theorem d_Main_pinch_44 : decode prog_1_method_18_code 44 = .ok (.aload_n 0, 1) := by decide +kernel
theorem d_Main_pinch_45 : decode prog_1_method_18_code 45 = .ok (.iload_n 1, 1) := by decide +kernel
theorem d_Main_pinch_46 : decode prog_1_method_18_code 46 = .ok (.iload 5, 2) := by decide +kernel
theorem d_Main_pinch_48 : decode prog_1_method_18_code 48 = .ok (.invokevirtual 235, 3) := by decide +kernel
theorem d_Main_pinch_51 : decode prog_1_method_18_code 51 = .ok (.istore 6, 2) := by decide +kernel
theorem d_Main_pinch_53 : decode prog_1_method_18_code 53 = .ok (.iload 6, 2) := by decide +kernel
theorem d_Main_pinch_55 : decode prog_1_method_18_code 55 = .ok (.iload_n 3, 1) := by decide +kernel
theorem d_Main_pinch_56 : decode prog_1_method_18_code 56 = .ok (.if_icmp .le 10, 3) := by decide +kernel
theorem d_Main_pinch_59 : decode prog_1_method_18_code 59 = .ok (.iload 6, 2) := by decide +kernel
theorem d_Main_pinch_61 : decode prog_1_method_18_code 61 = .ok (.istore_n 3, 1) := by decide +kernel
theorem d_Main_pinch_62 : decode prog_1_method_18_code 62 = .ok (.iload 5, 2) := by decide +kernel
theorem d_Main_pinch_64 : decode prog_1_method_18_code 64 = .ok (.istore 4, 2) := by decide +kernel
theorem d_Main_pinch_66 : decode prog_1_method_18_code 66 = .ok (.iinc 5 1, 3) := by decide +kernel
theorem d_Main_pinch_69 : decode prog_1_method_18_code 69 = .ok (.goto (-37), 3) := by decide +kernel
theorem d_Main_pinch_72 : decode prog_1_method_18_code 72 = .ok (.iload_n 2, 1) := by decide +kernel
theorem d_Main_pinch_73 : decode prog_1_method_18_code 73 = .ok (.ifCond .ne 8, 3) := by decide +kernel
theorem d_Main_pinch_76 : decode prog_1_method_18_code 76 = .ok (.iload 4, 2) := by decide +kernel
theorem d_Main_pinch_78 : decode prog_1_method_18_code 78 = .ok (.goto 4, 3) := by decide +kernel
theorem d_Main_pinch_81 : decode prog_1_method_18_code 81 = .ok (.iload_n 3, 1) := by decide +kernel
theorem d_Main_pinch_82 : decode prog_1_method_18_code 82 = .ok (.ireturn, 1) := by decide +kernel
theorem d_Main_changeBy_0 : decode prog_1_method_19_code 0 = .ok (.iconst 0, 1) := by decide +kernel
theorem d_Main_changeBy_1 : decode prog_1_method_19_code 1 = .ok (.istore_n 3, 1) := by decide +kernel
theorem d_Main_changeBy_2 : decode prog_1_method_19_code 2 = .ok (.iconst 0, 1) := by decide +kernel
theorem d_Main_changeBy_3 : decode prog_1_method_19_code 3 = .ok (.istore 4, 2) := by decide +kernel
theorem d_Main_changeBy_5 : decode prog_1_method_19_code 5 = .ok (.iload 4, 2) := by decide +kernel
theorem d_Main_changeBy_7 : decode prog_1_method_19_code 7 = .ok (.iconst 3, 1) := by decide +kernel
theorem d_Main_changeBy_8 : decode prog_1_method_19_code 8 = .ok (.if_icmp .ge 61, 3) := by decide +kernel
theorem d_Main_changeBy_11 : decode prog_1_method_19_code 11 = .ok (.aload_n 0, 1) := by decide +kernel
theorem d_Main_changeBy_12 : decode prog_1_method_19_code 12 = .ok (.getfield 26, 3) := by decide +kernel
theorem d_Main_changeBy_15 : decode prog_1_method_19_code 15 = .ok (.iload_n 1, 1) := by decide +kernel
theorem d_Main_changeBy_16 : decode prog_1_method_19_code 16 = .ok (.iload_n 2, 1) := by decide +kernel
theorem d_Main_changeBy_17 : decode prog_1_method_19_code 17 = .ok (.iload 4, 2) := by decide +kernel
theorem d_Main_changeBy_19 : decode prog_1_method_19_code 19 = .ok (.aload_n 0, 1) := by decide +kernel
theorem d_Main_changeBy_20 : decode prog_1_method_19_code 20 = .ok (.getfield 36, 3) := by decide +kernel
theorem d_Main_changeBy_23 : decode prog_1_method_19_code 23 = .ok (.getfield 144, 3) := by decide +kernel
theorem d_Main_changeBy_26 : decode prog_1_method_19_code 26 = .ok (.invokevirtual 147, 3) := by decide +kernel
theorem d_Main_changeBy_29 : decode prog_1_method_19_code 29 = .ok (.istore 5, 2) := by decide +kernel
theorem d_Main_changeBy_31 : decode prog_1_method_19_code 31 = .ok (.aload_n 0, 1) := by decide +kernel
theorem d_Main_changeBy_32 : decode prog_1_method_19_code 32 = .ok (.getfield 26, 3) := by decide +kernel
theorem d_Main_changeBy_35 : decode prog_1_method_19_code 35 = .ok (.iload_n 1, 1) := by decide +kernel
theorem d_Main_changeBy_36 : decode prog_1_method_19_code 36 = .ok (.bipush (-2), 2) := by decide +kernel
theorem d_Main_changeBy_38 : decode prog_1_method_19_code 38 = .ok (.iload 4, 2) := by decide +kernel
theorem d_Main_changeBy_40 : decode prog_1_method_19_code 40 = .ok (.aload_n 0, 1) := by decide +kernel
theorem d_Main_changeBy_41 : decode prog_1_method_19_code 41 = .ok (.getfield 36, 3) := by decide +kernel
theorem d_Main_changeBy_44 : decode prog_1_method_19_code 44 = .ok (.getfield 144, 3) := by decide +kernel
theorem d_Main_changeBy_47 : decode prog_1_method_19_code 47 = .ok (.invokevirtual 147, 3) := by decide +kernel
theorem d_Main_changeBy_50 : decode prog_1_method_19_code 50 = .ok (.istore 6, 2) := by decide +kernel
theorem d_Main_changeBy_52 : decode prog_1_method_19_code 52 = .ok (.iload_n 3, 1) := by decide +kernel
theorem d_Main_changeBy_53 : decode prog_1_method_19_code 53 = .ok (.iload 5, 2) := by decide +kernel
theorem d_Main_changeBy_55 : decode prog_1_method_19_code 55 = .ok (.iload 6, 2) := by decide +kernel
theorem d_Main_changeBy_57 : decode prog_1_method_19_code 57 = .ok (.isub, 1) := by decide +kernel
theorem d_Main_changeBy_58 : decode prog_1_method_19_code 58 = .ok (.invokestatic 238, 3) := by decide +kernel
theorem d_Main_changeBy_61 : decode prog_1_method_19_code 61 = .ok (.iadd, 1) := by decide +kernel
theorem d_Main_changeBy_62 : decode prog_1_method_19_code 62 = .ok (.istore_n 3, 1) := by decide +kernel
theorem d_Main_changeBy_63 : decode prog_1_method_19_code 63 = .ok (.iinc 4 1, 3) := by decide +kernel
theorem d_Main_changeBy_66 : decode prog_1_method_19_code 66 = .ok (.goto (-61), 3) := by decide +kernel
theorem d_Main_changeBy_69 : decode prog_1_method_19_code 69 = .ok (.iload_n 3, 1) := by decide +kernel
theorem d_Main_changeBy_70 : decode prog_1_method_19_code 70 = .ok (.ireturn, 1) := by decide +kernel
theorem d_Main_freest_0 : decode prog_1_method_20_code 0 = .ok (.iload_n 1, 1) := by decide +kernel
theorem d_Main_freest_1 : decode prog_1_method_20_code 1 = .ok (.aload_n 0, 1) := by decide +kernel
theorem d_Main_freest_2 : decode prog_1_method_20_code 2 = .ok (.getfield 26, 3) := by decide +kernel
theorem d_Main_freest_5 : decode prog_1_method_20_code 5 = .ok (.getfield 157, 3) := by decide +kernel
theorem d_Main_freest_8 : decode prog_1_method_20_code 8 = .ok (.invokestatic 112, 3) := by decide +kernel
theorem d_Main_freest_11 : decode prog_1_method_20_code 11 = .ok (.ifCond .eq 11, 3) := by decide +kernel
theorem d_Main_freest_14 : decode prog_1_method_20_code 14 = .ok (.iload_n 2, 1) := by decide +kernel
theorem d_Main_freest_15 : decode prog_1_method_20_code 15 = .ok (.iconst 2, 1) := by decide +kernel
theorem d_Main_freest_16 : decode prog_1_method_20_code 16 = .ok (.invokestatic 112, 3) := by decide +kernel
theorem d_Main_freest_19 : decode prog_1_method_20_code 19 = .ok (.ifCond .ne 5, 3) := by decide +kernel
theorem d_Main_freest_22 : decode prog_1_method_20_code 22 = .ok (.iconst (-1), 1) := by decide +kernel
theorem d_Main_freest_23 : decode prog_1_method_20_code 23 = .ok (.ireturn, 1) := by decide +kernel
theorem d_Main_freest_24 : decode prog_1_method_20_code 24 = .ok (.aload_n 0, 1) := by decide +kernel
theorem d_Main_freest_25 : decode prog_1_method_20_code 25 = .ok (.getfield 26, 3) := by decide +kernel
theorem d_Main_freest_28 : decode prog_1_method_20_code 28 = .ok (.getfield 131, 3) := by decide +kernel
theorem d_Main_freest_31 : decode prog_1_method_20_code 31 = .ok (.ifCond .ne 6, 3) := by decide +kernel
theorem d_Main_freest_34 : decode prog_1_method_20_code 34 = .ok (.bipush (-2), 2) := by decide +kernel
theorem d_Main_freest_36 : decode prog_1_method_20_code 36 = .ok (.ireturn, 1) := by decide +kernel
theorem d_Main_freest_37 : decode prog_1_method_20_code 37 = .ok (.aload_n 0, 1) := by decide +kernel
theorem d_Main_freest_38 : decode prog_1_method_20_code 38 = .ok (.iload_n 1, 1) := by decide +kernel
theorem d_Main_freest_39 : decode prog_1_method_20_code 39 = .ok (.invokevirtual 243, 3) := by decide +kernel
theorem d_Main_freest_42 : decode prog_1_method_20_code 42 = .ok (.istore_n 3, 1) := by decide +kernel
theorem d_Main_freest_43 : decode prog_1_method_20_code 43 = .ok (.iload_n 2, 1) := by decide +kernel
theorem d_Main_freest_44 : decode prog_1_method_20_code 44 = .ok (.ifCond .ne 7, 3) := by decide +kernel
theorem d_Main_freest_47 : decode prog_1_method_20_code 47 = .ok (.iload_n 3, 1) := by decide +kernel
theorem d_Main_freest_48 : decode prog_1_method_20_code 48 = .ok (.goto 12, 3) := by decide +kernel
theorem d_Main_freest_51 : decode prog_1_method_20_code 51 = .ok (.aload_n 0, 1) := by decide +kernel
theorem d_Main_freest_52 : decode prog_1_method_20_code 52 = .ok (.iload_n 1, 1) := by decide +kernel
theorem d_Main_freest_53 : decode prog_1_method_20_code 53 = .ok (.iload_n 3, 1) := by decide +kernel
theorem d_Main_freest_54 : decode prog_1_method_20_code 54 = .ok (.invokevirtual 246, 3) := by decide +kernel
theorem d_Main_freest_57 : decode prog_1_method_20_code 57 = .ok (.invokestatic 249, 3) := by decide +kernel
theorem d_Main_freest_60 : decode prog_1_method_20_code 60 = .ok (.ireturn, 1) := by decide +kernel
theorem d_Main_freestDish_0 : decode prog_1_method_21_code 0 = .ok (.iconst (-1), 1) := by decide +kernel
theorem d_Main_freestDish_1 : decode prog_1_method_21_code 1 = .ok (.istore_n 2, 1) := by decide +kernel
theorem d_Main_freestDish_2 : decode prog_1_method_21_code 2 = .ok (.iconst (-1), 1) := by decide +kernel
theorem d_Main_freestDish_3 : decode prog_1_method_21_code 3 = .ok (.istore_n 3, 1) := by decide +kernel
theorem d_Main_freestDish_4 : decode prog_1_method_21_code 4 = .ok (.iconst 0, 1) := by decide +kernel
theorem d_Main_freestDish_5 : decode prog_1_method_21_code 5 = .ok (.istore 4, 2) := by decide +kernel
theorem d_Main_freestDish_7 : decode prog_1_method_21_code 7 = .ok (.iload 4, 2) := by decide +kernel
theorem d_Main_freestDish_9 : decode prog_1_method_21_code 9 = .ok (.aload_n 0, 1) := by decide +kernel
theorem d_Main_freestDish_10 : decode prog_1_method_21_code 10 = .ok (.getfield 26, 3) := by decide +kernel
theorem d_Main_freestDish_13 : decode prog_1_method_21_code 13 = .ok (.getfield 131, 3) := by decide +kernel
theorem d_Main_freestDish_16 : decode prog_1_method_21_code 16 = .ok (.if_icmp .ge 33, 3) := by decide +kernel
theorem d_Main_freestDish_19 : decode prog_1_method_21_code 19 = .ok (.aload_n 0, 1) := by decide +kernel
theorem d_Main_freestDish_20 : decode prog_1_method_21_code 20 = .ok (.iload_n 1, 1) := by decide +kernel
theorem d_Main_freestDish_21 : decode prog_1_method_21_code 21 = .ok (.iload 4, 2) := by decide +kernel
theorem d_Main_freestDish_23 : decode prog_1_method_21_code 23 = .ok (.invokevirtual 246, 3) := by decide +kernel
theorem d_Main_freestDish_26 : decode prog_1_method_21_code 26 = .ok (.invokestatic 249, 3) := by decide +kernel
theorem d_Main_freestDish_29 : decode prog_1_method_21_code 29 = .ok (.istore 5, 2) := by decide +kernel
theorem d_Main_freestDish_31 : decode prog_1_method_21_code 31 = .ok (.iload 5, 2) := by decide +kernel
theorem d_Main_freestDish_33 : decode prog_1_method_21_code 33 = .ok (.iload_n 2, 1) := by decide +kernel
theorem d_Main_freestDish_34 : decode prog_1_method_21_code 34 = .ok (.if_icmp .le 9, 3) := by decide +kernel
theorem d_Main_freestDish_37 : decode prog_1_method_21_code 37 = .ok (.iload 5, 2) := by decide +kernel
theorem d_Main_freestDish_39 : decode prog_1_method_21_code 39 = .ok (.istore_n 2, 1) := by decide +kernel
theorem d_Main_freestDish_40 : decode prog_1_method_21_code 40 = .ok (.iload 4, 2) := by decide +kernel
theorem d_Main_freestDish_42 : decode prog_1_method_21_code 42 = .ok (.istore_n 3, 1) := by decide +kernel
theorem d_Main_freestDish_43 : decode prog_1_method_21_code 43 = .ok (.iinc 4 1, 3) := by decide +kernel
theorem d_Main_freestDish_46 : decode prog_1_method_21_code 46 = .ok (.goto (-39), 3) := by decide +kernel
theorem d_Main_freestDish_49 : decode prog_1_method_21_code 49 = .ok (.iload_n 3, 1) := by decide +kernel
theorem d_Main_freestDish_50 : decode prog_1_method_21_code 50 = .ok (.ireturn, 1) := by decide +kernel
theorem d_Main_freeBehind_0 : decode prog_1_method_22_code 0 = .ok (.aload_n 0, 1) := by decide +kernel
theorem d_Main_freeBehind_1 : decode prog_1_method_22_code 1 = .ok (.getfield 26, 3) := by decide +kernel
theorem d_Main_freeBehind_4 : decode prog_1_method_22_code 4 = .ok (.iload_n 1, 1) := by decide +kernel
theorem d_Main_freeBehind_5 : decode prog_1_method_22_code 5 = .ok (.iload_n 2, 1) := by decide +kernel
theorem d_Main_freeBehind_6 : decode prog_1_method_22_code 6 = .ok (.aload_n 0, 1) := by decide +kernel
theorem d_Main_freeBehind_7 : decode prog_1_method_22_code 7 = .ok (.getfield 36, 3) := by decide +kernel
theorem d_Main_freeBehind_10 : decode prog_1_method_22_code 10 = .ok (.getfield 144, 3) := by decide +kernel
theorem d_Main_freeBehind_13 : decode prog_1_method_22_code 13 = .ok (.iconst 0, 1) := by decide +kernel
theorem d_Main_freeBehind_14 : decode prog_1_method_22_code 14 = .ok (.invokevirtual 254, 3) := by decide +kernel
theorem d_Main_freeBehind_17 : decode prog_1_method_22_code 17 = .ok (.ireturn, 1) := by decide +kernel
theorem d_Main_supper_0 : decode prog_1_method_23_code 0 = .ok (.aload_n 0, 1) := by decide +kernel
theorem d_Main_supper_1 : decode prog_1_method_23_code 1 = .ok (.getfield 26, 3) := by decide +kernel
theorem d_Main_supper_4 : decode prog_1_method_23_code 4 = .ok (.getfield 131, 3) := by decide +kernel
theorem d_Main_supper_7 : decode prog_1_method_23_code 7 = .ok (.ifCond .ne 5, 3) := by decide +kernel
theorem d_Main_supper_10 : decode prog_1_method_23_code 10 = .ok (.iconst 0, 1) := by decide +kernel
theorem d_Main_supper_11 : decode prog_1_method_23_code 11 = .ok (.ireturn, 1) := by decide +kernel
theorem d_Main_supper_12 : decode prog_1_method_23_code 12 = .ok (.iconst 0, 1) := by decide +kernel
theorem d_Main_supper_13 : decode prog_1_method_23_code 13 = .ok (.istore_n 1, 1) := by decide +kernel
theorem d_Main_supper_14 : decode prog_1_method_23_code 14 = .ok (.iconst 0, 1) := by decide +kernel
theorem d_Main_supper_15 : decode prog_1_method_23_code 15 = .ok (.istore_n 2, 1) := by decide +kernel
theorem d_Main_supper_16 : decode prog_1_method_23_code 16 = .ok (.iload_n 2, 1) := by decide +kernel
theorem d_Main_supper_17 : decode prog_1_method_23_code 17 = .ok (.aload_n 0, 1) := by decide +kernel
theorem d_Main_supper_18 : decode prog_1_method_23_code 18 = .ok (.getfield 26, 3) := by decide +kernel
theorem d_Main_supper_21 : decode prog_1_method_23_code 21 = .ok (.getfield 157, 3) := by decide +kernel
theorem d_Main_supper_24 : decode prog_1_method_23_code 24 = .ok (.if_icmp .ge 25, 3) := by decide +kernel
theorem d_Main_supper_27 : decode prog_1_method_23_code 27 = .ok (.iload_n 1, 1) := by decide +kernel
theorem d_Main_supper_28 : decode prog_1_method_23_code 28 = .ok (.aload_n 0, 1) := by decide +kernel
theorem d_Main_supper_29 : decode prog_1_method_23_code 29 = .ok (.iload_n 2, 1) := by decide +kernel
theorem d_Main_supper_30 : decode prog_1_method_23_code 30 = .ok (.aload_n 0, 1) := by decide +kernel
theorem d_Main_supper_31 : decode prog_1_method_23_code 31 = .ok (.iload_n 2, 1) := by decide +kernel
theorem d_Main_supper_32 : decode prog_1_method_23_code 32 = .ok (.invokevirtual 243, 3) := by decide +kernel
theorem d_Main_supper_35 : decode prog_1_method_23_code 35 = .ok (.invokevirtual 246, 3) := by decide +kernel
theorem d_Main_supper_38 : decode prog_1_method_23_code 38 = .ok (.invokestatic 249, 3) := by decide +kernel
theorem d_Main_supper_41 : decode prog_1_method_23_code 41 = .ok (.iadd, 1) := by decide +kernel
theorem d_Main_supper_42 : decode prog_1_method_23_code 42 = .ok (.istore_n 1, 1) := by decide +kernel
theorem d_Main_supper_43 : decode prog_1_method_23_code 43 = .ok (.iinc 2 1, 3) := by decide +kernel
theorem d_Main_supper_46 : decode prog_1_method_23_code 46 = .ok (.goto (-30), 3) := by decide +kernel
theorem d_Main_supper_49 : decode prog_1_method_23_code 49 = .ok (.iload_n 1, 1) := by decide +kernel
theorem d_Main_supper_50 : decode prog_1_method_23_code 50 = .ok (.ireturn, 1) := by decide +kernel
theorem d_Main_feud_0 : decode prog_1_method_24_code 0 = .ok (.iload_n 1, 1) := by decide +kernel
theorem d_Main_feud_1 : decode prog_1_method_24_code 1 = .ok (.aload_n 0, 1) := by decide +kernel
theorem d_Main_feud_2 : decode prog_1_method_24_code 2 = .ok (.getfield 26, 3) := by decide +kernel
theorem d_Main_feud_5 : decode prog_1_method_24_code 5 = .ok (.getfield 157, 3) := by decide +kernel
theorem d_Main_feud_8 : decode prog_1_method_24_code 8 = .ok (.invokestatic 112, 3) := by decide +kernel
theorem d_Main_feud_11 : decode prog_1_method_24_code 11 = .ok (.ifCond .eq 36, 3) := by decide +kernel
theorem d_Main_feud_14 : decode prog_1_method_24_code 14 = .ok (.iload_n 2, 1) := by decide +kernel
theorem d_Main_feud_15 : decode prog_1_method_24_code 15 = .ok (.aload_n 0, 1) := by decide +kernel
theorem d_Main_feud_16 : decode prog_1_method_24_code 16 = .ok (.getfield 26, 3) := by decide +kernel
theorem d_Main_feud_19 : decode prog_1_method_24_code 19 = .ok (.getfield 177, 3) := by decide +kernel
theorem d_Main_feud_22 : decode prog_1_method_24_code 22 = .ok (.invokestatic 112, 3) := by decide +kernel
theorem d_Main_feud_25 : decode prog_1_method_24_code 25 = .ok (.ifCond .eq 22, 3) := by decide +kernel
theorem d_Main_feud_28 : decode prog_1_method_24_code 28 = .ok (.iload_n 3, 1) := by decide +kernel
theorem d_Main_feud_29 : decode prog_1_method_24_code 29 = .ok (.aload_n 0, 1) := by decide +kernel
theorem d_Main_feud_30 : decode prog_1_method_24_code 30 = .ok (.getfield 26, 3) := by decide +kernel
theorem d_Main_feud_33 : decode prog_1_method_24_code 33 = .ok (.getfield 177, 3) := by decide +kernel
theorem d_Main_feud_36 : decode prog_1_method_24_code 36 = .ok (.invokestatic 112, 3) := by decide +kernel
theorem d_Main_feud_39 : decode prog_1_method_24_code 39 = .ok (.ifCond .eq 8, 3) := by decide +kernel
theorem d_Main_feud_42 : decode prog_1_method_24_code 42 = .ok (.iload_n 2, 1) := by decide +kernel
theorem d_Main_feud_43 : decode prog_1_method_24_code 43 = .ok (.iload_n 3, 1) := by decide +kernel
theorem d_Main_feud_44 : decode prog_1_method_24_code 44 = .ok (.if_icmp .ne 5, 3) := by decide +kernel
theorem d_Main_feud_47 : decode prog_1_method_24_code 47 = .ok (.iconst (-1), 1) := by decide +kernel
theorem d_Main_feud_48 : decode prog_1_method_24_code 48 = .ok (.ireturn, 1) := by decide +kernel
theorem d_Main_feud_49 : decode prog_1_method_24_code 49 = .ok (.iconst 0, 1) := by decide +kernel
theorem d_Main_feud_50 : decode prog_1_method_24_code 50 = .ok (.istore 4, 2) := by decide +kernel
theorem d_Main_feud_52 : decode prog_1_method_24_code 52 = .ok (.iconst 0, 1) := by decide +kernel
theorem d_Main_feud_53 : decode prog_1_method_24_code 53 = .ok (.istore 5, 2) := by decide +kernel
theorem d_Main_feud_55 : decode prog_1_method_24_code 55 = .ok (.iload 5, 2) := by decide +kernel
theorem d_Main_feud_57 : decode prog_1_method_24_code 57 = .ok (.aload_n 0, 1) := by decide +kernel
theorem d_Main_feud_58 : decode prog_1_method_24_code 58 = .ok (.getfield 26, 3) := by decide +kernel
theorem d_Main_feud_61 : decode prog_1_method_24_code 61 = .ok (.getfield 131, 3) := by decide +kernel
theorem d_Main_feud_64 : decode prog_1_method_24_code 64 = .ok (.if_icmp .ge 42, 3) := by decide +kernel
theorem d_Main_feud_67 : decode prog_1_method_24_code 67 = .ok (.aload_n 0, 1) := by decide +kernel
theorem d_Main_feud_68 : decode prog_1_method_24_code 68 = .ok (.iload_n 1, 1) := by decide +kernel
theorem d_Main_feud_69 : decode prog_1_method_24_code 69 = .ok (.iload 5, 2) := by decide +kernel
theorem d_Main_feud_71 : decode prog_1_method_24_code 71 = .ok (.invokevirtual 246, 3) := by decide +kernel
theorem d_Main_feud_74 : decode prog_1_method_24_code 74 = .ok (.istore 6, 2) := by decide +kernel
theorem d_Main_feud_76 : decode prog_1_method_24_code 76 = .ok (.iload 6, 2) := by decide +kernel
theorem d_Main_feud_78 : decode prog_1_method_24_code 78 = .ok (.iload_n 2, 1) := by decide +kernel
theorem d_Main_feud_79 : decode prog_1_method_24_code 79 = .ok (.invokestatic 193, 3) := by decide +kernel
theorem d_Main_feud_82 : decode prog_1_method_24_code 82 = .ok (.iload 6, 2) := by decide +kernel
theorem d_Main_feud_84 : decode prog_1_method_24_code 84 = .ok (.iload_n 3, 1) := by decide +kernel
theorem d_Main_feud_85 : decode prog_1_method_24_code 85 = .ok (.invokestatic 193, 3) := by decide +kernel
theorem d_Main_feud_88 : decode prog_1_method_24_code 88 = .ok (.if_icmp .eq 12, 3) := by decide +kernel
theorem d_Main_feud_91 : decode prog_1_method_24_code 91 = .ok (.iload 4, 2) := by decide +kernel
theorem d_Main_feud_93 : decode prog_1_method_24_code 93 = .ok (.iconst 1, 1) := by decide +kernel
theorem d_Main_feud_94 : decode prog_1_method_24_code 94 = .ok (.iload 5, 2) := by decide +kernel
theorem d_Main_feud_96 : decode prog_1_method_24_code 96 = .ok (.ishl, 1) := by decide +kernel
theorem d_Main_feud_97 : decode prog_1_method_24_code 97 = .ok (.ior, 1) := by decide +kernel
theorem d_Main_feud_98 : decode prog_1_method_24_code 98 = .ok (.istore 4, 2) := by decide +kernel
theorem d_Main_feud_100 : decode prog_1_method_24_code 100 = .ok (.iinc 5 1, 3) := by decide +kernel
theorem d_Main_feud_103 : decode prog_1_method_24_code 103 = .ok (.goto (-48), 3) := by decide +kernel
theorem d_Main_feud_106 : decode prog_1_method_24_code 106 = .ok (.iload 4, 2) := by decide +kernel
theorem d_Main_feud_108 : decode prog_1_method_24_code 108 = .ok (.ireturn, 1) := by decide +kernel
theorem d_Main_menu_0 : decode prog_1_method_25_code 0 = .ok (.iload_n 1, 1) := by decide +kernel
theorem d_Main_menu_1 : decode prog_1_method_25_code 1 = .ok (.aload_n 0, 1) := by decide +kernel
theorem d_Main_menu_2 : decode prog_1_method_25_code 2 = .ok (.getfield 26, 3) := by decide +kernel
theorem d_Main_menu_5 : decode prog_1_method_25_code 5 = .ok (.getfield 157, 3) := by decide +kernel
theorem d_Main_menu_8 : decode prog_1_method_25_code 8 = .ok (.invokestatic 112, 3) := by decide +kernel
theorem d_Main_menu_11 : decode prog_1_method_25_code 11 = .ok (.ifCond .eq 29, 3) := by decide +kernel
theorem d_Main_menu_14 : decode prog_1_method_25_code 14 = .ok (.iload_n 2, 1) := by decide +kernel
theorem d_Main_menu_15 : decode prog_1_method_25_code 15 = .ok (.iconst 1, 1) := by decide +kernel
theorem d_Main_menu_16 : decode prog_1_method_25_code 16 = .ok (.if_icmp .lt 24, 3) := by decide +kernel
theorem d_Main_menu_19 : decode prog_1_method_25_code 19 = .ok (.iload_n 2, 1) := by decide +kernel
theorem d_Main_menu_20 : decode prog_1_method_25_code 20 = .ok (.iconst 4, 1) := by decide +kernel
theorem d_Main_menu_21 : decode prog_1_method_25_code 21 = .ok (.if_icmp .gt 19, 3) := by decide +kernel
theorem d_Main_menu_24 : decode prog_1_method_25_code 24 = .ok (.iload_n 3, 1) := by decide +kernel
theorem d_Main_menu_25 : decode prog_1_method_25_code 25 = .ok (.iconst 1, 1) := by decide +kernel
theorem d_Main_menu_26 : decode prog_1_method_25_code 26 = .ok (.aload_n 0, 1) := by decide +kernel
theorem d_Main_menu_27 : decode prog_1_method_25_code 27 = .ok (.getfield 26, 3) := by decide +kernel
theorem d_Main_menu_30 : decode prog_1_method_25_code 30 = .ok (.getfield 177, 3) := by decide +kernel
theorem d_Main_menu_33 : decode prog_1_method_25_code 33 = .ok (.ishl, 1) := by decide +kernel
theorem d_Main_menu_34 : decode prog_1_method_25_code 34 = .ok (.invokestatic 112, 3) := by decide +kernel
theorem d_Main_menu_37 : decode prog_1_method_25_code 37 = .ok (.ifCond .ne 5, 3) := by decide +kernel
theorem d_Main_menu_40 : decode prog_1_method_25_code 40 = .ok (.iconst (-1), 1) := by decide +kernel
theorem d_Main_menu_41 : decode prog_1_method_25_code 41 = .ok (.ireturn, 1) := by decide +kernel
theorem d_Main_menu_42 : decode prog_1_method_25_code 42 = .ok (.iload 4, 2) := by decide +kernel
theorem d_Main_menu_44 : decode prog_1_method_25_code 44 = .ok (.iconst (-1), 1) := by decide +kernel
theorem d_Main_menu_45 : decode prog_1_method_25_code 45 = .ok (.if_icmp .lt 9, 3) := by decide +kernel
theorem d_Main_menu_48 : decode prog_1_method_25_code 48 = .ok (.iload 4, 2) := by decide +kernel
theorem d_Main_menu_50 : decode prog_1_method_25_code 50 = .ok (.iload_n 2, 1) := by decide +kernel
theorem d_Main_menu_51 : decode prog_1_method_25_code 51 = .ok (.if_icmp .lt 5, 3) := by decide +kernel
theorem d_Main_menu_54 : decode prog_1_method_25_code 54 = .ok (.iconst (-1), 1) := by decide +kernel
theorem d_Main_menu_55 : decode prog_1_method_25_code 55 = .ok (.ireturn, 1) := by decide +kernel
theorem d_Main_menu_56 : decode prog_1_method_25_code 56 = .ok (.aload_n 0, 1) := by decide +kernel
theorem d_Main_menu_57 : decode prog_1_method_25_code 57 = .ok (.getfield 74, 3) := by decide +kernel
theorem d_Main_menu_60 : decode prog_1_method_25_code 60 = .ok (.aload_n 0, 1) := by decide +kernel
theorem d_Main_menu_61 : decode prog_1_method_25_code 61 = .ok (.getfield 26, 3) := by decide +kernel
theorem d_Main_menu_64 : decode prog_1_method_25_code 64 = .ok (.aload_n 0, 1) := by decide +kernel
theorem d_Main_menu_65 : decode prog_1_method_25_code 65 = .ok (.getfield 36, 3) := by decide +kernel
theorem d_Main_menu_68 : decode prog_1_method_25_code 68 = .ok (.iload_n 1, 1) := by decide +kernel
theorem d_Main_menu_69 : decode prog_1_method_25_code 69 = .ok (.iload_n 2, 1) := by decide +kernel
theorem d_Main_menu_70 : decode prog_1_method_25_code 70 = .ok (.iload_n 3, 1) := by decide +kernel
theorem d_Main_menu_71 : decode prog_1_method_25_code 71 = .ok (.invokevirtual 257, 3) := by decide +kernel
theorem d_Main_menu_74 : decode prog_1_method_25_code 74 = .ok (.ifCond .ne 17, 3) := by decide +kernel
theorem d_Main_menu_77 : decode prog_1_method_25_code 77 = .ok (.iload 4, 2) := by decide +kernel
theorem d_Main_menu_79 : decode prog_1_method_25_code 79 = .ok (.iconst (-1), 1) := by decide +kernel
theorem d_Main_menu_80 : decode prog_1_method_25_code 80 = .ok (.if_icmp .ne 8, 3) := by decide +kernel
theorem d_Main_menu_83 : decode prog_1_method_25_code 83 = .ok (.bipush (-2), 2) := by decide +kernel
theorem d_Main_menu_85 : decode prog_1_method_25_code 85 = .ok (.goto 5, 3) := by decide +kernel
theorem d_Main_menu_88 : decode prog_1_method_25_code 88 = .ok (.bipush (-3), 2) := by decide +kernel
theorem d_Main_menu_90 : decode prog_1_method_25_code 90 = .ok (.ireturn, 1) := by decide +kernel
theorem d_Main_menu_91 : decode prog_1_method_25_code 91 = .ok (.iload 4, 2) := by decide +kernel
theorem d_Main_menu_93 : decode prog_1_method_25_code 93 = .ok (.iconst (-1), 1) := by decide +kernel
theorem d_Main_menu_94 : decode prog_1_method_25_code 94 = .ok (.if_icmp .ne 11, 3) := by decide +kernel
theorem d_Main_menu_97 : decode prog_1_method_25_code 97 = .ok (.aload_n 0, 1) := by decide +kernel
theorem d_Main_menu_98 : decode prog_1_method_25_code 98 = .ok (.getfield 74, 3) := by decide +kernel
theorem d_Main_menu_101 : decode prog_1_method_25_code 101 = .ok (.getfield 258, 3) := by decide +kernel
theorem d_Main_menu_104 : decode prog_1_method_25_code 104 = .ok (.ireturn, 1) := by decide +kernel
theorem d_Main_menu_105 : decode prog_1_method_25_code 105 = .ok (.aload_n 0, 1) := by decide +kernel
theorem d_Main_menu_106 : decode prog_1_method_25_code 106 = .ok (.getfield 74, 3) := by decide +kernel
theorem d_Main_menu_109 : decode prog_1_method_25_code 109 = .ok (.getfield 261, 3) := by decide +kernel
theorem d_Main_menu_112 : decode prog_1_method_25_code 112 = .ok (.iload 4, 2) := by decide +kernel
theorem d_Main_menu_114 : decode prog_1_method_25_code 114 = .ok (.invokestatic 120, 3) := by decide +kernel
theorem d_Main_menu_117 : decode prog_1_method_25_code 117 = .ok (.istore 5, 2) := by decide +kernel
theorem d_Main_menu_119 : decode prog_1_method_25_code 119 = .ok (.iload 5, 2) := by decide +kernel
theorem d_Main_menu_121 : decode prog_1_method_25_code 121 = .ok (.ifCond .ne 8, 3) := by decide +kernel
theorem d_Main_menu_124 : decode prog_1_method_25_code 124 = .ok (.bipush (-2), 2) := by decide +kernel
theorem d_Main_menu_126 : decode prog_1_method_25_code 126 = .ok (.goto 7, 3) := by decide +kernel
theorem d_Main_menu_129 : decode prog_1_method_25_code 129 = .ok (.iload 5, 2) := by decide +kernel
theorem d_Main_menu_131 : decode prog_1_method_25_code 131 = .ok (.iconst 1, 1) := by decide +kernel
theorem d_Main_menu_132 : decode prog_1_method_25_code 132 = .ok (.isub, 1) := by decide +kernel
theorem d_Main_menu_133 : decode prog_1_method_25_code 133 = .ok (.ireturn, 1) := by decide +kernel
theorem d_Main_often_0 : decode prog_1_method_26_code 0 = .ok (.iload_n 1, 1) := by decide +kernel
theorem d_Main_often_1 : decode prog_1_method_26_code 1 = .ok (.aload_n 0, 1) := by decide +kernel
theorem d_Main_often_2 : decode prog_1_method_26_code 2 = .ok (.getfield 26, 3) := by decide +kernel
theorem d_Main_often_5 : decode prog_1_method_26_code 5 = .ok (.getfield 131, 3) := by decide +kernel
theorem d_Main_often_8 : decode prog_1_method_26_code 8 = .ok (.invokestatic 112, 3) := by decide +kernel
theorem d_Main_often_11 : decode prog_1_method_26_code 11 = .ok (.ifCond .ne 5, 3) := by decide +kernel
theorem d_Main_often_14 : decode prog_1_method_26_code 14 = .ok (.iconst (-1), 1) := by decide +kernel
theorem d_Main_often_15 : decode prog_1_method_26_code 15 = .ok (.ireturn, 1) := by decide +kernel
theorem d_Main_often_16 : decode prog_1_method_26_code 16 = .ok (.aload_n 0, 1) := by decide +kernel
theorem d_Main_often_17 : decode prog_1_method_26_code 17 = .ok (.getfield 40, 3) := by decide +kernel
theorem d_Main_often_20 : decode prog_1_method_26_code 20 = .ok (.aload_n 0, 1) := by decide +kernel
theorem d_Main_often_21 : decode prog_1_method_26_code 21 = .ok (.getfield 36, 3) := by decide +kernel
theorem d_Main_often_24 : decode prog_1_method_26_code 24 = .ok (.invokevirtual 262, 3) := by decide +kernel
theorem d_Main_often_27 : decode prog_1_method_26_code 27 = .ok (.iconst 0, 1) := by decide +kernel
theorem d_Main_often_28 : decode prog_1_method_26_code 28 = .ok (.istore_n 2, 1) := by decide +kernel
theorem d_Main_often_29 : decode prog_1_method_26_code 29 = .ok (.iload_n 2, 1) := by decide +kernel
theorem d_Main_often_30 : decode prog_1_method_26_code 30 = .ok (.bipush 99, 2) := by decide +kernel
theorem d_Main_often_32 : decode prog_1_method_26_code 32 = .ok (.if_icmp .gt 37, 3) := by decide +kernel
theorem d_Main_often_35 : decode prog_1_method_26_code 35 = .ok (.aload_n 0, 1) := by decide +kernel
theorem d_Main_often_36 : decode prog_1_method_26_code 36 = .ok (.getfield 40, 3) := by decide +kernel
theorem d_Main_often_39 : decode prog_1_method_26_code 39 = .ok (.aload_n 0, 1) := by decide +kernel
theorem d_Main_often_40 : decode prog_1_method_26_code 40 = .ok (.getfield 26, 3) := by decide +kernel
theorem d_Main_often_43 : decode prog_1_method_26_code 43 = .ok (.iload_n 1, 1) := by decide +kernel
theorem d_Main_often_44 : decode prog_1_method_26_code 44 = .ok (.invokevirtual 196, 3) := by decide +kernel
theorem d_Main_often_47 : decode prog_1_method_26_code 47 = .ok (.ifCond .eq 22, 3) := by decide +kernel
theorem d_Main_often_50 : decode prog_1_method_26_code 50 = .ok (.aload_n 0, 1) := by decide +kernel
theorem d_Main_often_51 : decode prog_1_method_26_code 51 = .ok (.getfield 40, 3) := by decide +kernel
theorem d_Main_often_54 : decode prog_1_method_26_code 54 = .ok (.aload_n 0, 1) := by decide +kernel
theorem d_Main_often_55 : decode prog_1_method_26_code 55 = .ok (.getfield 26, 3) := by decide +kernel
theorem d_Main_often_58 : decode prog_1_method_26_code 58 = .ok (.iload_n 1, 1) := by decide +kernel
theorem d_Main_often_59 : decode prog_1_method_26_code 59 = .ok (.invokevirtual 204, 3) := by decide +kernel
theorem d_Main_often_62 : decode prog_1_method_26_code 62 = .ok (.pop, 1) := by decide +kernel
theorem d_Main_often_63 : decode prog_1_method_26_code 63 = .ok (.iinc 2 1, 3) := by decide +kernel
theorem d_Main_often_66 : decode prog_1_method_26_code 66 = .ok (.goto (-37), 3) := by decide +kernel
theorem d_Main_often_69 : decode prog_1_method_26_code 69 = .ok (.iload_n 2, 1) := by decide +kernel
theorem d_Main_often_70 : decode prog_1_method_26_code 70 = .ok (.ireturn, 1) := by decide +kernel
theorem d_Main_hunger_0 : decode prog_1_method_27_code 0 = .ok (.iload_n 1, 1) := by decide +kernel
theorem d_Main_hunger_1 : decode prog_1_method_27_code 1 = .ok (.aload_n 0, 1) := by decide +kernel
theorem d_Main_hunger_2 : decode prog_1_method_27_code 2 = .ok (.getfield 26, 3) := by decide +kernel
theorem d_Main_hunger_5 : decode prog_1_method_27_code 5 = .ok (.getfield 157, 3) := by decide +kernel
theorem d_Main_hunger_8 : decode prog_1_method_27_code 8 = .ok (.invokestatic 112, 3) := by decide +kernel
theorem d_Main_hunger_11 : decode prog_1_method_27_code 11 = .ok (.ifCond .eq 17, 3) := by decide +kernel
theorem d_Main_hunger_14 : decode prog_1_method_27_code 14 = .ok (.iload_n 2, 1) := by decide +kernel
theorem d_Main_hunger_15 : decode prog_1_method_27_code 15 = .ok (.aload_n 0, 1) := by decide +kernel
theorem d_Main_hunger_16 : decode prog_1_method_27_code 16 = .ok (.getfield 26, 3) := by decide +kernel
theorem d_Main_hunger_19 : decode prog_1_method_27_code 19 = .ok (.getfield 177, 3) := by decide +kernel
theorem d_Main_hunger_22 : decode prog_1_method_27_code 22 = .ok (.invokestatic 112, 3) := by decide +kernel
theorem d_Main_hunger_25 : decode prog_1_method_27_code 25 = .ok (.ifCond .ne 5, 3) := by decide +kernel
theorem d_Main_hunger_28 : decode prog_1_method_27_code 28 = .ok (.iconst (-1), 1) := by decide +kernel
theorem d_Main_hunger_29 : decode prog_1_method_27_code 29 = .ok (.ireturn, 1) := by decide +kernel
theorem d_Main_hunger_30 : decode prog_1_method_27_code 30 = .ok (.aload_n 0, 1) := by decide +kernel
theorem d_Main_hunger_31 : decode prog_1_method_27_code 31 = .ok (.getfield 26, 3) := by decide +kernel
theorem d_Main_hunger_34 : decode prog_1_method_27_code 34 = .ok (.getfield 180, 3) := by decide +kernel
theorem d_Main_hunger_37 : decode prog_1_method_27_code 37 = .ok (.iload_n 2, 1) := by decide +kernel
theorem d_Main_hunger_38 : decode prog_1_method_27_code 38 = .ok (.invokestatic 120, 3) := by decide +kernel
theorem d_Main_hunger_41 : decode prog_1_method_27_code 41 = .ok (.istore_n 3, 1) := by decide +kernel
theorem d_Main_hunger_42 : decode prog_1_method_27_code 42 = .ok (.iconst 0, 1) := by decide +kernel
theorem d_Main_hunger_43 : decode prog_1_method_27_code 43 = .ok (.istore 4, 2) := by decide +kernel
theorem d_Main_hunger_45 : decode prog_1_method_27_code 45 = .ok (.iload 4, 2) := by decide +kernel
theorem d_Main_hunger_47 : decode prog_1_method_27_code 47 = .ok (.bipush 99, 2) := by decide +kernel
theorem d_Main_hunger_49 : decode prog_1_method_27_code 49 = .ok (.if_icmp .gt 41, 3) := by decide +kernel
theorem d_Main_hunger_52 : decode prog_1_method_27_code 52 = .ok (.aload_n 0, 1) := by decide +kernel
theorem d_Main_hunger_53 : decode prog_1_method_27_code 53 = .ok (.getfield 36, 3) := by decide +kernel
theorem d_Main_hunger_56 : decode prog_1_method_27_code 56 = .ok (.aload_n 0, 1) := by decide +kernel
theorem d_Main_hunger_57 : decode prog_1_method_27_code 57 = .ok (.getfield 26, 3) := by decide +kernel
theorem d_Main_hunger_60 : decode prog_1_method_27_code 60 = .ok (.iload_n 1, 1) := by decide +kernel
theorem d_Main_hunger_61 : decode prog_1_method_27_code 61 = .ok (.iload_n 3, 1) := by decide +kernel
theorem d_Main_hunger_62 : decode prog_1_method_27_code 62 = .ok (.iload 4, 2) := by decide +kernel
theorem d_Main_hunger_64 : decode prog_1_method_27_code 64 = .ok (.invokevirtual 173, 3) := by decide +kernel
theorem d_Main_hunger_67 : decode prog_1_method_27_code 67 = .ok (.aload_n 0, 1) := by decide +kernel
theorem d_Main_hunger_68 : decode prog_1_method_27_code 68 = .ok (.getfield 26, 3) := by decide +kernel
theorem d_Main_hunger_71 : decode prog_1_method_27_code 71 = .ok (.getfield 183, 3) := by decide +kernel
theorem d_Main_hunger_74 : decode prog_1_method_27_code 74 = .ok (.iload_n 2, 1) := by decide +kernel
theorem d_Main_hunger_75 : decode prog_1_method_27_code 75 = .ok (.invokestatic 120, 3) := by decide +kernel
theorem d_Main_hunger_78 : decode prog_1_method_27_code 78 = .ok (.if_icmp .ge 6, 3) := by decide +kernel
theorem d_Main_hunger_81 : decode prog_1_method_27_code 81 = .ok (.iload 4, 2) := by decide +kernel
theorem d_Main_hunger_83 : decode prog_1_method_27_code 83 = .ok (.ireturn, 1) := by decide +kernel
theorem d_Main_hunger_84 : decode prog_1_method_27_code 84 = .ok (.iinc 4 1, 3) := by decide +kernel
theorem d_Main_hunger_87 : decode prog_1_method_27_code 87 = .ok (.goto (-42), 3) := by decide +kernel
theorem d_Main_hunger_90 : decode prog_1_method_27_code 90 = .ok (.bipush (-2), 2) := by decide +kernel
theorem d_Main_hunger_92 : decode prog_1_method_27_code 92 = .ok (.ireturn, 1) := by decide +kernel
theorem d_Main_stockIn_0 : decode prog_1_method_28_code 0 = .ok (.iload_n 1, 1) := by decide +kernel
theorem d_Main_stockIn_1 : decode prog_1_method_28_code 1 = .ok (.aload_n 0, 1) := by decide +kernel
theorem d_Main_stockIn_2 : decode prog_1_method_28_code 2 = .ok (.getfield 26, 3) := by decide +kernel
theorem d_Main_stockIn_5 : decode prog_1_method_28_code 5 = .ok (.getfield 109, 3) := by decide +kernel
theorem d_Main_stockIn_8 : decode prog_1_method_28_code 8 = .ok (.invokestatic 112, 3) := by decide +kernel
theorem d_Main_stockIn_11 : decode prog_1_method_28_code 11 = .ok (.ifCond .eq 13, 3) := by decide +kernel
theorem d_Main_stockIn_14 : decode prog_1_method_28_code 14 = .ok (.iload_n 2, 1) := by decide +kernel
theorem d_Main_stockIn_15 : decode prog_1_method_28_code 15 = .ok (.ifCond .lt 9, 3) := by decide +kernel
theorem d_Main_stockIn_18 : decode prog_1_method_28_code 18 = .ok (.iload_n 2, 1) := by decide +kernel
theorem d_Main_stockIn_19 : decode prog_1_method_28_code 19 = .ok (.bipush 60, 2) := by decide +kernel
theorem d_Main_stockIn_21 : decode prog_1_method_28_code 21 = .ok (.if_icmp .le 5, 3) := by decide +kernel
theorem d_Main_stockIn_24 : decode prog_1_method_28_code 24 = .ok (.iconst (-1), 1) := by decide +kernel
theorem d_Main_stockIn_25 : decode prog_1_method_28_code 25 = .ok (.ireturn, 1) := by decide +kernel
theorem d_Main_stockIn_26 : decode prog_1_method_28_code 26 = .ok (.aload_n 0, 1) := by decide +kernel
theorem d_Main_stockIn_27 : decode prog_1_method_28_code 27 = .ok (.getfield 40, 3) := by decide +kernel
theorem d_Main_stockIn_30 : decode prog_1_method_28_code 30 = .ok (.aload_n 0, 1) := by decide +kernel
theorem d_Main_stockIn_31 : decode prog_1_method_28_code 31 = .ok (.getfield 36, 3) := by decide +kernel
theorem d_Main_stockIn_34 : decode prog_1_method_28_code 34 = .ok (.invokevirtual 262, 3) := by decide +kernel
theorem d_Main_stockIn_37 : decode prog_1_method_28_code 37 = .ok (.aload_n 0, 1) := by decide +kernel
theorem d_Main_stockIn_38 : decode prog_1_method_28_code 38 = .ok (.getfield 40, 3) := by decide +kernel
theorem d_Main_stockIn_41 : decode prog_1_method_28_code 41 = .ok (.aload_n 0, 1) := by decide +kernel
theorem d_Main_stockIn_42 : decode prog_1_method_28_code 42 = .ok (.getfield 26, 3) := by decide +kernel
theorem d_Main_stockIn_45 : decode prog_1_method_28_code 45 = .ok (.iload_n 2, 1) := by decide +kernel
theorem d_Main_stockIn_46 : decode prog_1_method_28_code 46 = .ok (.invokevirtual 214, 3) := by decide +kernel
theorem d_Main_stockIn_49 : decode prog_1_method_28_code 49 = .ok (.aload_n 0, 1) := by decide +kernel
theorem d_Main_stockIn_50 : decode prog_1_method_28_code 50 = .ok (.getfield 40, 3) := by decide +kernel
theorem d_Main_stockIn_53 : decode prog_1_method_28_code 53 = .ok (.getfield 116, 3) := by decide +kernel
theorem d_Main_stockIn_56 : decode prog_1_method_28_code 56 = .ok (.iload_n 1, 1) := by decide +kernel
theorem d_Main_stockIn_57 : decode prog_1_method_28_code 57 = .ok (.invokestatic 120, 3) := by decide +kernel
theorem d_Main_stockIn_60 : decode prog_1_method_28_code 60 = .ok (.ireturn, 1) := by decide +kernel
theorem d_Main_boundIn_0 : decode prog_1_method_29_code 0 = .ok (.iload_n 1, 1) := by decide +kernel
theorem d_Main_boundIn_1 : decode prog_1_method_29_code 1 = .ok (.aload_n 0, 1) := by decide +kernel
theorem d_Main_boundIn_2 : decode prog_1_method_29_code 2 = .ok (.getfield 26, 3) := by decide +kernel
theorem d_Main_boundIn_5 : decode prog_1_method_29_code 5 = .ok (.getfield 157, 3) := by decide +kernel
theorem d_Main_boundIn_8 : decode prog_1_method_29_code 8 = .ok (.invokestatic 112, 3) := by decide +kernel
theorem d_Main_boundIn_11 : decode prog_1_method_29_code 11 = .ok (.ifCond .eq 21, 3) := by decide +kernel
theorem d_Main_boundIn_14 : decode prog_1_method_29_code 14 = .ok (.iload_n 2, 1) := by decide +kernel
theorem d_Main_boundIn_15 : decode prog_1_method_29_code 15 = .ok (.iconst 3, 1) := by decide +kernel
theorem d_Main_boundIn_16 : decode prog_1_method_29_code 16 = .ok (.invokestatic 112, 3) := by decide +kernel
theorem d_Main_boundIn_19 : decode prog_1_method_29_code 19 = .ok (.ifCond .eq 13, 3) := by decide +kernel
theorem d_Main_boundIn_22 : decode prog_1_method_29_code 22 = .ok (.iload_n 3, 1) := by decide +kernel
theorem d_Main_boundIn_23 : decode prog_1_method_29_code 23 = .ok (.ifCond .lt 9, 3) := by decide +kernel
theorem d_Main_boundIn_26 : decode prog_1_method_29_code 26 = .ok (.iload_n 3, 1) := by decide +kernel
theorem d_Main_boundIn_27 : decode prog_1_method_29_code 27 = .ok (.bipush 60, 2) := by decide +kernel
theorem d_Main_boundIn_29 : decode prog_1_method_29_code 29 = .ok (.if_icmp .le 5, 3) := by decide +kernel
theorem d_Main_boundIn_32 : decode prog_1_method_29_code 32 = .ok (.iconst (-1), 1) := by decide +kernel
theorem d_Main_boundIn_33 : decode prog_1_method_29_code 33 = .ok (.ireturn, 1) := by decide +kernel
theorem d_Main_boundIn_34 : decode prog_1_method_29_code 34 = .ok (.aload_n 0, 1) := by decide +kernel
theorem d_Main_boundIn_35 : decode prog_1_method_29_code 35 = .ok (.getfield 36, 3) := by decide +kernel
theorem d_Main_boundIn_38 : decode prog_1_method_29_code 38 = .ok (.aload_n 0, 1) := by decide +kernel
theorem d_Main_boundIn_39 : decode prog_1_method_29_code 39 = .ok (.getfield 26, 3) := by decide +kernel
theorem d_Main_boundIn_42 : decode prog_1_method_29_code 42 = .ok (.iload_n 1, 1) := by decide +kernel
theorem d_Main_boundIn_43 : decode prog_1_method_29_code 43 = .ok (.iload_n 2, 1) := by decide +kernel
theorem d_Main_boundIn_44 : decode prog_1_method_29_code 44 = .ok (.iload_n 3, 1) := by decide +kernel
theorem d_Main_boundIn_45 : decode prog_1_method_29_code 45 = .ok (.invokevirtual 173, 3) := by decide +kernel
theorem d_Main_boundIn_48 : decode prog_1_method_29_code 48 = .ok (.ireturn, 1) := by decide +kernel
theorem d_Main_year_0 : decode prog_1_method_30_code 0 = .ok (.iload_n 1, 1) := by decide +kernel
theorem d_Main_year_1 : decode prog_1_method_30_code 1 = .ok (.aload_n 0, 1) := by decide +kernel
theorem d_Main_year_2 : decode prog_1_method_30_code 2 = .ok (.getfield 26, 3) := by decide +kernel
theorem d_Main_year_5 : decode prog_1_method_30_code 5 = .ok (.getfield 131, 3) := by decide +kernel
theorem d_Main_year_8 : decode prog_1_method_30_code 8 = .ok (.invokestatic 112, 3) := by decide +kernel
theorem d_Main_year_11 : decode prog_1_method_30_code 11 = .ok (.ifCond .eq 33, 3) := by decide +kernel
theorem d_Main_year_14 : decode prog_1_method_30_code 14 = .ok (.iload_n 2, 1) := by decide +kernel
theorem d_Main_year_15 : decode prog_1_method_30_code 15 = .ok (.iconst 3, 1) := by decide +kernel
theorem d_Main_year_16 : decode prog_1_method_30_code 16 = .ok (.invokestatic 112, 3) := by decide +kernel
theorem d_Main_year_19 : decode prog_1_method_30_code 19 = .ok (.ifCond .eq 25, 3) := by decide +kernel
theorem d_Main_year_22 : decode prog_1_method_30_code 22 = .ok (.iload_n 3, 1) := by decide +kernel
theorem d_Main_year_23 : decode prog_1_method_30_code 23 = .ok (.bipush 100, 2) := by decide +kernel
theorem d_Main_year_25 : decode prog_1_method_30_code 25 = .ok (.invokestatic 112, 3) := by decide +kernel
theorem d_Main_year_28 : decode prog_1_method_30_code 28 = .ok (.ifCond .eq 16, 3) := by decide +kernel
theorem d_Main_year_31 : decode prog_1_method_30_code 31 = .ok (.iload 4, 2) := by decide +kernel
theorem d_Main_year_33 : decode prog_1_method_30_code 33 = .ok (.iconst 1, 1) := by decide +kernel
theorem d_Main_year_34 : decode prog_1_method_30_code 34 = .ok (.if_icmp .lt 10, 3) := by decide +kernel
theorem d_Main_year_37 : decode prog_1_method_30_code 37 = .ok (.iload 4, 2) := by decide +kernel
theorem d_Main_year_39 : decode prog_1_method_30_code 39 = .ok (.bipush 20, 2) := by decide +kernel
theorem d_Main_year_41 : decode prog_1_method_30_code 41 = .ok (.if_icmp .le 5, 3) := by decide +kernel
theorem d_Main_year_44 : decode prog_1_method_30_code 44 = .ok (.iconst (-1), 1) := by decide +kernel
theorem d_Main_year_45 : decode prog_1_method_30_code 45 = .ok (.ireturn, 1) := by decide +kernel
theorem d_Main_year_46 : decode prog_1_method_30_code 46 = .ok (.aload_n 0, 1) := by decide +kernel
theorem d_Main_year_47 : decode prog_1_method_30_code 47 = .ok (.getfield 36, 3) := by decide +kernel
theorem d_Main_year_50 : decode prog_1_method_30_code 50 = .ok (.aload_n 0, 1) := by decide +kernel
theorem d_Main_year_51 : decode prog_1_method_30_code 51 = .ok (.getfield 26, 3) := by decide +kernel
theorem d_Main_year_54 : decode prog_1_method_30_code 54 = .ok (.iload_n 1, 1) := by decide +kernel
theorem d_Main_year_55 : decode prog_1_method_30_code 55 = .ok (.invokevirtual 196, 3) := by decide +kernel
theorem d_Main_year_58 : decode prog_1_method_30_code 58 = .ok (.ifCond .ne 6, 3) := by decide +kernel
theorem d_Main_year_61 : decode prog_1_method_30_code 61 = .ok (.bipush (-2), 2) := by decide +kernel
theorem d_Main_year_63 : decode prog_1_method_30_code 63 = .ok (.ireturn, 1) := by decide +kernel
theorem d_Main_year_64 : decode prog_1_method_30_code 64 = .ok (.iconst 0, 1) := by decide +kernel
theorem d_Main_year_65 : decode prog_1_method_30_code 65 = .ok (.istore 5, 2) := by decide +kernel
theorem d_Main_year_67 : decode prog_1_method_30_code 67 = .ok (.iconst 0, 1) := by decide +kernel
theorem d_Main_year_68 : decode prog_1_method_30_code 68 = .ok (.istore 6, 2) := by decide +kernel
theorem d_Main_year_70 : decode prog_1_method_30_code 70 = .ok (.iload 6, 2) := by decide +kernel
theorem d_Main_year_72 : decode prog_1_method_30_code 72 = .ok (.iload 4, 2) := by decide +kernel
theorem d_Main_year_74 : decode prog_1_method_30_code 74 = .ok (.if_icmp .ge 58, 3) := by decide +kernel
theorem d_Main_year_77 : decode prog_1_method_30_code 77 = .ok (.aload_n 0, 1) := by decide +kernel
theorem d_Main_year_78 : decode prog_1_method_30_code 78 = .ok (.getfield 36, 3) := by decide +kernel
theorem d_Main_year_81 : decode prog_1_method_30_code 81 = .ok (.aload_n 0, 1) := by decide +kernel
theorem d_Main_year_82 : decode prog_1_method_30_code 82 = .ok (.getfield 26, 3) := by decide +kernel
theorem d_Main_year_85 : decode prog_1_method_30_code 85 = .ok (.iload_n 1, 1) := by decide +kernel
theorem d_Main_year_86 : decode prog_1_method_30_code 86 = .ok (.aload_n 0, 1) := by decide +kernel
theorem d_Main_year_87 : decode prog_1_method_30_code 87 = .ok (.getfield 26, 3) := by decide +kernel
theorem d_Main_year_90 : decode prog_1_method_30_code 90 = .ok (.getfield 265, 3) := by decide +kernel
theorem d_Main_year_93 : decode prog_1_method_30_code 93 = .ok (.iload 6, 2) := by decide +kernel
theorem d_Main_year_95 : decode prog_1_method_30_code 95 = .ok (.iadd, 1) := by decide +kernel
theorem d_Main_year_96 : decode prog_1_method_30_code 96 = .ok (.invokevirtual 268, 3) := by decide +kernel
theorem d_Main_year_99 : decode prog_1_method_30_code 99 = .ok (.istore 7, 2) := by decide +kernel
theorem d_Main_year_101 : decode prog_1_method_30_code 101 = .ok (.aload_n 0, 1) := by decide +kernel
theorem d_Main_year_102 : decode prog_1_method_30_code 102 = .ok (.getfield 26, 3) := by decide +kernel
theorem d_Main_year_105 : decode prog_1_method_30_code 105 = .ok (.iload_n 1, 1) := by decide +kernel
theorem d_Main_year_106 : decode prog_1_method_30_code 106 = .ok (.iload 7, 2) := by decide +kernel
theorem d_Main_year_108 : decode prog_1_method_30_code 108 = .ok (.iload_n 2, 1) := by decide +kernel
theorem d_Main_year_109 : decode prog_1_method_30_code 109 = .ok (.aload_n 0, 1) := by decide +kernel
theorem d_Main_year_110 : decode prog_1_method_30_code 110 = .ok (.getfield 36, 3) := by decide +kernel
theorem d_Main_year_113 : decode prog_1_method_30_code 113 = .ok (.getfield 144, 3) := by decide +kernel
theorem d_Main_year_116 : decode prog_1_method_30_code 116 = .ok (.invokevirtual 147, 3) := by decide +kernel
theorem d_Main_year_119 : decode prog_1_method_30_code 119 = .ok (.iload_n 3, 1) := by decide +kernel
theorem d_Main_year_120 : decode prog_1_method_30_code 120 = .ok (.if_icmp .lt 6, 3) := by decide +kernel
theorem d_Main_year_123 : decode prog_1_method_30_code 123 = .ok (.iinc 5 1, 3) := by decide +kernel
theorem d_Main_year_126 : decode prog_1_method_30_code 126 = .ok (.iinc 6 1, 3) := by decide +kernel
theorem d_Main_year_129 : decode prog_1_method_30_code 129 = .ok (.goto (-59), 3) := by decide +kernel
theorem d_Main_year_132 : decode prog_1_method_30_code 132 = .ok (.iload 5, 2) := by decide +kernel
theorem d_Main_year_134 : decode prog_1_method_30_code 134 = .ok (.ireturn, 1) := by decide +kernel
theorem d_Main_tell_0 : decode prog_1_method_31_code 0 = .ok (.iload_n 1, 1) := by decide +kernel
theorem d_Main_tell_1 : decode prog_1_method_31_code 1 = .ok (.iconst 3, 1) := by decide +kernel
theorem d_Main_tell_2 : decode prog_1_method_31_code 2 = .ok (.invokestatic 112, 3) := by decide +kernel
theorem d_Main_tell_5 : decode prog_1_method_31_code 5 = .ok (.ifCond .eq 21, 3) := by decide +kernel
theorem d_Main_tell_8 : decode prog_1_method_31_code 8 = .ok (.iload_n 2, 1) := by decide +kernel
theorem d_Main_tell_9 : decode prog_1_method_31_code 9 = .ok (.bipush 10, 2) := by decide +kernel
theorem d_Main_tell_11 : decode prog_1_method_31_code 11 = .ok (.invokestatic 112, 3) := by decide +kernel
theorem d_Main_tell_14 : decode prog_1_method_31_code 14 = .ok (.ifCond .eq 12, 3) := by decide +kernel
theorem d_Main_tell_17 : decode prog_1_method_31_code 17 = .ok (.iload_n 3, 1) := by decide +kernel
theorem d_Main_tell_18 : decode prog_1_method_31_code 18 = .ok (.bipush 100, 2) := by decide +kernel
theorem d_Main_tell_20 : decode prog_1_method_31_code 20 = .ok (.invokestatic 112, 3) := by decide +kernel
theorem d_Main_tell_23 : decode prog_1_method_31_code 23 = .ok (.ifCond .ne 5, 3) := by decide +kernel
theorem d_Main_tell_26 : decode prog_1_method_31_code 26 = .ok (.iconst (-1), 1) := by decide +kernel
theorem d_Main_tell_27 : decode prog_1_method_31_code 27 = .ok (.ireturn, 1) := by decide +kernel
theorem d_Main_tell_28 : decode prog_1_method_31_code 28 = .ok (.aload_n 0, 1) := by decide +kernel
theorem d_Main_tell_29 : decode prog_1_method_31_code 29 = .ok (.getfield 60, 3) := by decide +kernel
theorem d_Main_tell_32 : decode prog_1_method_31_code 32 = .ok (.iload_n 1, 1) := by decide +kernel
theorem d_Main_tell_33 : decode prog_1_method_31_code 33 = .ok (.iload_n 2, 1) := by decide +kernel
theorem d_Main_tell_34 : decode prog_1_method_31_code 34 = .ok (.iload_n 3, 1) := by decide +kernel
theorem d_Main_tell_35 : decode prog_1_method_31_code 35 = .ok (.invokevirtual 271, 3) := by decide +kernel
theorem d_Main_tell_38 : decode prog_1_method_31_code 38 = .ok (.ireturn, 1) := by decide +kernel
theorem d_Main_forget_0 : decode prog_1_method_32_code 0 = .ok (.aload_n 0, 1) := by decide +kernel
theorem d_Main_forget_1 : decode prog_1_method_32_code 1 = .ok (.getfield 60, 3) := by decide +kernel
theorem d_Main_forget_4 : decode prog_1_method_32_code 4 = .ok (.getfield 275, 3) := by decide +kernel
theorem d_Main_forget_7 : decode prog_1_method_32_code 7 = .ok (.istore_n 1, 1) := by decide +kernel
theorem d_Main_forget_8 : decode prog_1_method_32_code 8 = .ok (.aload_n 0, 1) := by decide +kernel
theorem d_Main_forget_9 : decode prog_1_method_32_code 9 = .ok (.getfield 60, 3) := by decide +kernel
theorem d_Main_forget_12 : decode prog_1_method_32_code 12 = .ok (.invokevirtual 108, 3) := by decide +kernel
theorem d_Main_forget_15 : decode prog_1_method_32_code 15 = .ok (.iload_n 1, 1) := by decide +kernel
theorem d_Main_forget_16 : decode prog_1_method_32_code 16 = .ok (.ireturn, 1) := by decide +kernel
theorem d_Main_blame_0 : decode prog_1_method_33_code 0 = .ok (.iload_n 1, 1) := by decide +kernel
theorem d_Main_blame_1 : decode prog_1_method_33_code 1 = .ok (.aload_n 0, 1) := by decide +kernel
theorem d_Main_blame_2 : decode prog_1_method_33_code 2 = .ok (.getfield 60, 3) := by decide +kernel
theorem d_Main_blame_5 : decode prog_1_method_33_code 5 = .ok (.getfield 275, 3) := by decide +kernel
theorem d_Main_blame_8 : decode prog_1_method_33_code 8 = .ok (.iconst 1, 1) := by decide +kernel
theorem d_Main_blame_9 : decode prog_1_method_33_code 9 = .ok (.iadd, 1) := by decide +kernel
theorem d_Main_blame_10 : decode prog_1_method_33_code 10 = .ok (.invokestatic 112, 3) := by decide +kernel
theorem d_Main_blame_13 : decode prog_1_method_33_code 13 = .ok (.ifCond .ne 5, 3) := by decide +kernel
theorem d_Main_blame_16 : decode prog_1_method_33_code 16 = .ok (.iconst (-1), 1) := by decide +kernel
theorem d_Main_blame_17 : decode prog_1_method_33_code 17 = .ok (.ireturn, 1) := by decide +kernel
theorem d_Main_blame_18 : decode prog_1_method_33_code 18 = .ok (.aload_n 0, 1) := by decide +kernel
theorem d_Main_blame_19 : decode prog_1_method_33_code 19 = .ok (.getfield 60, 3) := by decide +kernel
theorem d_Main_blame_22 : decode prog_1_method_33_code 22 = .ok (.aload_n 0, 1) := by decide +kernel
theorem d_Main_blame_23 : decode prog_1_method_33_code 23 = .ok (.getfield 26, 3) := by decide +kernel
theorem d_Main_blame_26 : decode prog_1_method_33_code 26 = .ok (.aload_n 0, 1) := by decide +kernel
theorem d_Main_blame_27 : decode prog_1_method_33_code 27 = .ok (.getfield 36, 3) := by decide +kernel
theorem d_Main_blame_30 : decode prog_1_method_33_code 30 = .ok (.getfield 144, 3) := by decide +kernel
theorem d_Main_blame_33 : decode prog_1_method_33_code 33 = .ok (.iload_n 1, 1) := by decide +kernel
theorem d_Main_blame_34 : decode prog_1_method_33_code 34 = .ok (.invokevirtual 278, 3) := by decide +kernel
theorem d_Main_blame_37 : decode prog_1_method_33_code 37 = .ok (.aload_n 0, 1) := by decide +kernel
theorem d_Main_blame_38 : decode prog_1_method_33_code 38 = .ok (.getfield 60, 3) := by decide +kernel
theorem d_Main_blame_41 : decode prog_1_method_33_code 41 = .ok (.getfield 282, 3) := by decide +kernel
theorem d_Main_blame_44 : decode prog_1_method_33_code 44 = .ok (.ireturn, 1) := by decide +kernel
theorem d_Main_sure_0 : decode prog_1_method_34_code 0 = .ok (.iload_n 1, 1) := by decide +kernel
theorem d_Main_sure_1 : decode prog_1_method_34_code 1 = .ok (.aload_n 0, 1) := by decide +kernel
theorem d_Main_sure_2 : decode prog_1_method_34_code 2 = .ok (.getfield 60, 3) := by decide +kernel
theorem d_Main_sure_5 : decode prog_1_method_34_code 5 = .ok (.getfield 275, 3) := by decide +kernel
theorem d_Main_sure_8 : decode prog_1_method_34_code 8 = .ok (.iconst 1, 1) := by decide +kernel
theorem d_Main_sure_9 : decode prog_1_method_34_code 9 = .ok (.iadd, 1) := by decide +kernel
theorem d_Main_sure_10 : decode prog_1_method_34_code 10 = .ok (.invokestatic 112, 3) := by decide +kernel
theorem d_Main_sure_13 : decode prog_1_method_34_code 13 = .ok (.ifCond .ne 5, 3) := by decide +kernel
theorem d_Main_sure_16 : decode prog_1_method_34_code 16 = .ok (.iconst (-1), 1) := by decide +kernel
theorem d_Main_sure_17 : decode prog_1_method_34_code 17 = .ok (.ireturn, 1) := by decide +kernel
theorem d_Main_sure_18 : decode prog_1_method_34_code 18 = .ok (.aload_n 0, 1) := by decide +kernel
theorem d_Main_sure_19 : decode prog_1_method_34_code 19 = .ok (.getfield 60, 3) := by decide +kernel
theorem d_Main_sure_22 : decode prog_1_method_34_code 22 = .ok (.aload_n 0, 1) := by decide +kernel
theorem d_Main_sure_23 : decode prog_1_method_34_code 23 = .ok (.getfield 26, 3) := by decide +kernel
theorem d_Main_sure_26 : decode prog_1_method_34_code 26 = .ok (.aload_n 0, 1) := by decide +kernel
theorem d_Main_sure_27 : decode prog_1_method_34_code 27 = .ok (.getfield 36, 3) := by decide +kernel
theorem d_Main_sure_30 : decode prog_1_method_34_code 30 = .ok (.getfield 144, 3) := by decide +kernel
theorem d_Main_sure_33 : decode prog_1_method_34_code 33 = .ok (.iload_n 1, 1) := by decide +kernel
theorem d_Main_sure_34 : decode prog_1_method_34_code 34 = .ok (.invokevirtual 278, 3) := by decide +kernel
theorem d_Main_sure_37 : decode prog_1_method_34_code 37 = .ok (.aload_n 0, 1) := by decide +kernel
theorem d_Main_sure_38 : decode prog_1_method_34_code 38 = .ok (.getfield 60, 3) := by decide +kernel
theorem d_Main_sure_41 : decode prog_1_method_34_code 41 = .ok (.invokevirtual 285, 3) := by decide +kernel
theorem d_Main_sure_44 : decode prog_1_method_34_code 44 = .ok (.ireturn, 1) := by decide +kernel
theorem d_Main_taste_0 : decode prog_1_method_35_code 0 = .ok (.iload_n 1, 1) := by decide +kernel
theorem d_Main_taste_1 : decode prog_1_method_35_code 1 = .ok (.aload_n 0, 1) := by decide +kernel
theorem d_Main_taste_2 : decode prog_1_method_35_code 2 = .ok (.getfield 60, 3) := by decide +kernel
theorem d_Main_taste_5 : decode prog_1_method_35_code 5 = .ok (.getfield 275, 3) := by decide +kernel
theorem d_Main_taste_8 : decode prog_1_method_35_code 8 = .ok (.iconst 1, 1) := by decide +kernel
theorem d_Main_taste_9 : decode prog_1_method_35_code 9 = .ok (.iadd, 1) := by decide +kernel
theorem d_Main_taste_10 : decode prog_1_method_35_code 10 = .ok (.invokestatic 112, 3) := by decide +kernel
theorem d_Main_taste_13 : decode prog_1_method_35_code 13 = .ok (.ifCond .ne 5, 3) := by decide +kernel
theorem d_Main_taste_16 : decode prog_1_method_35_code 16 = .ok (.iconst (-1), 1) := by decide +kernel
theorem d_Main_taste_17 : decode prog_1_method_35_code 17 = .ok (.ireturn, 1) := by decide +kernel
theorem d_Main_taste_18 : decode prog_1_method_35_code 18 = .ok (.aload_n 0, 1) := by decide +kernel
theorem d_Main_taste_19 : decode prog_1_method_35_code 19 = .ok (.getfield 60, 3) := by decide +kernel
theorem d_Main_taste_22 : decode prog_1_method_35_code 22 = .ok (.aload_n 0, 1) := by decide +kernel
theorem d_Main_taste_23 : decode prog_1_method_35_code 23 = .ok (.getfield 26, 3) := by decide +kernel
theorem d_Main_taste_26 : decode prog_1_method_35_code 26 = .ok (.aload_n 0, 1) := by decide +kernel
theorem d_Main_taste_27 : decode prog_1_method_35_code 27 = .ok (.getfield 36, 3) := by decide +kernel
theorem d_Main_taste_30 : decode prog_1_method_35_code 30 = .ok (.getfield 144, 3) := by decide +kernel
theorem d_Main_taste_33 : decode prog_1_method_35_code 33 = .ok (.iload_n 1, 1) := by decide +kernel
theorem d_Main_taste_34 : decode prog_1_method_35_code 34 = .ok (.invokevirtual 278, 3) := by decide +kernel
theorem d_Main_taste_37 : decode prog_1_method_35_code 37 = .ok (.aload_n 0, 1) := by decide +kernel
theorem d_Main_taste_38 : decode prog_1_method_35_code 38 = .ok (.getfield 60, 3) := by decide +kernel
theorem d_Main_taste_41 : decode prog_1_method_35_code 41 = .ok (.aload_n 0, 1) := by decide +kernel
theorem d_Main_taste_42 : decode prog_1_method_35_code 42 = .ok (.getfield 26, 3) := by decide +kernel
theorem d_Main_taste_45 : decode prog_1_method_35_code 45 = .ok (.aload_n 0, 1) := by decide +kernel
theorem d_Main_taste_46 : decode prog_1_method_35_code 46 = .ok (.getfield 36, 3) := by decide +kernel
theorem d_Main_taste_49 : decode prog_1_method_35_code 49 = .ok (.getfield 144, 3) := by decide +kernel
theorem d_Main_taste_52 : decode prog_1_method_35_code 52 = .ok (.invokevirtual 288, 3) := by decide +kernel
theorem d_Main_taste_55 : decode prog_1_method_35_code 55 = .ok (.ireturn, 1) := by decide +kernel
theorem d_Main_hold_0 : decode prog_1_method_36_code 0 = .ok (.aload_n 0, 1) := by decide +kernel
theorem d_Main_hold_1 : decode prog_1_method_36_code 1 = .ok (.getfield 53, 3) := by decide +kernel
theorem d_Main_hold_4 : decode prog_1_method_36_code 4 = .ok (.iload_n 1, 1) := by decide +kernel
theorem d_Main_hold_5 : decode prog_1_method_36_code 5 = .ok (.aload_n 0, 1) := by decide +kernel
theorem d_Main_hold_6 : decode prog_1_method_36_code 6 = .ok (.getfield 36, 3) := by decide +kernel
theorem d_Main_hold_9 : decode prog_1_method_36_code 9 = .ok (.invokevirtual 291, 3) := by decide +kernel
theorem d_Main_hold_12 : decode prog_1_method_36_code 12 = .ok (.ireturn, 1) := by decide +kernel
theorem d_Main_restore_0 : decode prog_1_method_37_code 0 = .ok (.aload_n 0, 1) := by decide +kernel
theorem d_Main_restore_1 : decode prog_1_method_37_code 1 = .ok (.getfield 53, 3) := by decide +kernel
theorem d_Main_restore_4 : decode prog_1_method_37_code 4 = .ok (.iload_n 1, 1) := by decide +kernel
theorem d_Main_restore_5 : decode prog_1_method_37_code 5 = .ok (.aload_n 0, 1) := by decide +kernel
theorem d_Main_restore_6 : decode prog_1_method_37_code 6 = .ok (.getfield 36, 3) := by decide +kernel
theorem d_Main_restore_9 : decode prog_1_method_37_code 9 = .ok (.invokevirtual 294, 3) := by decide +kernel
theorem d_Main_restore_12 : decode prog_1_method_37_code 12 = .ok (.ifCond .ne 5, 3) := by decide +kernel
theorem d_Main_restore_15 : decode prog_1_method_37_code 15 = .ok (.iconst 0, 1) := by decide +kernel
theorem d_Main_restore_16 : decode prog_1_method_37_code 16 = .ok (.ireturn, 1) := by decide +kernel
theorem d_Main_restore_17 : decode prog_1_method_37_code 17 = .ok (.aload_n 0, 1) := by decide +kernel
theorem d_Main_restore_18 : decode prog_1_method_37_code 18 = .ok (.getfield 46, 3) := by decide +kernel
theorem d_Main_restore_21 : decode prog_1_method_37_code 21 = .ok (.invokevirtual 104, 3) := by decide +kernel
theorem d_Main_restore_24 : decode prog_1_method_37_code 24 = .ok (.iconst 1, 1) := by decide +kernel
theorem d_Main_restore_25 : decode prog_1_method_37_code 25 = .ok (.ireturn, 1) := by decide +kernel
theorem d_Main_count_0 : decode prog_1_method_38_code 0 = .ok (.iload_n 1, 1) := by decide +kernel
theorem d_Main_count_1 : decode prog_1_method_38_code 1 = .ok (.tableswitch 198 0 15 #[79, 87, 95, 103, 111, 119, 127, 135, 135, 135, 150, 158, 166, 174, 182, 190], 79) := by decide +kernel
theorem d_Main_count_80 : decode prog_1_method_38_code 80 = .ok (.aload_n 0, 1) := by decide +kernel
theorem d_Main_count_81 : decode prog_1_method_38_code 81 = .ok (.getfield 26, 3) := by decide +kernel
theorem d_Main_count_84 : decode prog_1_method_38_code 84 = .ok (.getfield 109, 3) := by decide +kernel
theorem d_Main_count_87 : decode prog_1_method_38_code 87 = .ok (.ireturn, 1) := by decide +kernel
theorem d_Main_count_88 : decode prog_1_method_38_code 88 = .ok (.aload_n 0, 1) := by decide +kernel
theorem d_Main_count_89 : decode prog_1_method_38_code 89 = .ok (.getfield 26, 3) := by decide +kernel
theorem d_Main_count_92 : decode prog_1_method_38_code 92 = .ok (.getfield 131, 3) := by decide +kernel
theorem d_Main_count_95 : decode prog_1_method_38_code 95 = .ok (.ireturn, 1) := by decide +kernel
theorem d_Main_count_96 : decode prog_1_method_38_code 96 = .ok (.aload_n 0, 1) := by decide +kernel
theorem d_Main_count_97 : decode prog_1_method_38_code 97 = .ok (.getfield 26, 3) := by decide +kernel
theorem d_Main_count_100 : decode prog_1_method_38_code 100 = .ok (.getfield 157, 3) := by decide +kernel
theorem d_Main_count_103 : decode prog_1_method_38_code 103 = .ok (.ireturn, 1) := by decide +kernel
theorem d_Main_count_104 : decode prog_1_method_38_code 104 = .ok (.aload_n 0, 1) := by decide +kernel
theorem d_Main_count_105 : decode prog_1_method_38_code 105 = .ok (.getfield 26, 3) := by decide +kernel
theorem d_Main_count_108 : decode prog_1_method_38_code 108 = .ok (.getfield 177, 3) := by decide +kernel
theorem d_Main_count_111 : decode prog_1_method_38_code 111 = .ok (.ireturn, 1) := by decide +kernel
theorem d_Main_count_112 : decode prog_1_method_38_code 112 = .ok (.aload_n 0, 1) := by decide +kernel
theorem d_Main_count_113 : decode prog_1_method_38_code 113 = .ok (.getfield 36, 3) := by decide +kernel
theorem d_Main_count_116 : decode prog_1_method_38_code 116 = .ok (.getfield 144, 3) := by decide +kernel
theorem d_Main_count_119 : decode prog_1_method_38_code 119 = .ok (.ireturn, 1) := by decide +kernel
theorem d_Main_count_120 : decode prog_1_method_38_code 120 = .ok (.aload_n 0, 1) := by decide +kernel
theorem d_Main_count_121 : decode prog_1_method_38_code 121 = .ok (.getfield 36, 3) := by decide +kernel
theorem d_Main_count_124 : decode prog_1_method_38_code 124 = .ok (.getfield 297, 3) := by decide +kernel
theorem d_Main_count_127 : decode prog_1_method_38_code 127 = .ok (.ireturn, 1) := by decide +kernel
theorem d_Main_count_128 : decode prog_1_method_38_code 128 = .ok (.aload_n 0, 1) := by decide +kernel
theorem d_Main_count_129 : decode prog_1_method_38_code 129 = .ok (.getfield 36, 3) := by decide +kernel
theorem d_Main_count_132 : decode prog_1_method_38_code 132 = .ok (.getfield 208, 3) := by decide +kernel
theorem d_Main_count_135 : decode prog_1_method_38_code 135 = .ok (.ireturn, 1) := by decide +kernel
theorem d_Main_count_136 : decode prog_1_method_38_code 136 = .ok (.aload_n 0, 1) := by decide +kernel
theorem d_Main_count_137 : decode prog_1_method_38_code 137 = .ok (.getfield 36, 3) := by decide +kernel
theorem d_Main_count_140 : decode prog_1_method_38_code 140 = .ok (.getfield 300, 3) := by decide +kernel
theorem d_Main_count_143 : decode prog_1_method_38_code 143 = .ok (.iload_n 1, 1) := by decide +kernel
theorem d_Main_count_144 : decode prog_1_method_38_code 144 = .ok (.bipush 7, 2) := by decide +kernel
theorem d_Main_count_146 : decode prog_1_method_38_code 146 = .ok (.isub, 1) := by decide +kernel
theorem d_Main_count_147 : decode prog_1_method_38_code 147 = .ok (.invokestatic 120, 3) := by decide +kernel
theorem d_Main_count_150 : decode prog_1_method_38_code 150 = .ok (.ireturn, 1) := by decide +kernel
theorem d_Main_count_151 : decode prog_1_method_38_code 151 = .ok (.aload_n 0, 1) := by decide +kernel
theorem d_Main_count_152 : decode prog_1_method_38_code 152 = .ok (.getfield 12, 3) := by decide +kernel
theorem d_Main_count_155 : decode prog_1_method_38_code 155 = .ok (.getfield 82, 3) := by decide +kernel
theorem d_Main_count_158 : decode prog_1_method_38_code 158 = .ok (.ireturn, 1) := by decide +kernel
theorem d_Main_count_159 : decode prog_1_method_38_code 159 = .ok (.aload_n 0, 1) := by decide +kernel
theorem d_Main_count_160 : decode prog_1_method_38_code 160 = .ok (.getfield 46, 3) := by decide +kernel
theorem d_Main_count_163 : decode prog_1_method_38_code 163 = .ok (.getfield 303, 3) := by decide +kernel
theorem d_Main_count_166 : decode prog_1_method_38_code 166 = .ok (.ireturn, 1) := by decide +kernel
theorem d_Main_count_167 : decode prog_1_method_38_code 167 = .ok (.aload_n 0, 1) := by decide +kernel
theorem d_Main_count_168 : decode prog_1_method_38_code 168 = .ok (.getfield 60, 3) := by decide +kernel
theorem d_Main_count_171 : decode prog_1_method_38_code 171 = .ok (.getfield 275, 3) := by decide +kernel
theorem d_Main_count_174 : decode prog_1_method_38_code 174 = .ok (.ireturn, 1) := by decide +kernel
theorem d_Main_count_175 : decode prog_1_method_38_code 175 = .ok (.aload_n 0, 1) := by decide +kernel
theorem d_Main_count_176 : decode prog_1_method_38_code 176 = .ok (.getfield 53, 3) := by decide +kernel
theorem d_Main_count_179 : decode prog_1_method_38_code 179 = .ok (.invokevirtual 304, 3) := by decide +kernel
theorem d_Main_count_182 : decode prog_1_method_38_code 182 = .ok (.ireturn, 1) := by decide +kernel
theorem d_Main_count_183 : decode prog_1_method_38_code 183 = .ok (.aload_n 0, 1) := by decide +kernel
theorem d_Main_count_184 : decode prog_1_method_38_code 184 = .ok (.getfield 36, 3) := by decide +kernel
theorem d_Main_count_187 : decode prog_1_method_38_code 187 = .ok (.getfield 307, 3) := by decide +kernel
theorem d_Main_count_190 : decode prog_1_method_38_code 190 = .ok (.ireturn, 1) := by decide +kernel
theorem d_Main_count_191 : decode prog_1_method_38_code 191 = .ok (.aload_n 0, 1) := by decide +kernel
theorem d_Main_count_192 : decode prog_1_method_38_code 192 = .ok (.getfield 36, 3) := by decide +kernel
theorem d_Main_count_195 : decode prog_1_method_38_code 195 = .ok (.invokevirtual 310, 3) := by decide +kernel
theorem d_Main_count_198 : decode prog_1_method_38_code 198 = .ok (.ireturn, 1) := by decide +kernel
theorem d_Main_count_199 : decode prog_1_method_38_code 199 = .ok (.iconst (-1), 1) := by decide +kernel
theorem d_Main_count_200 : decode prog_1_method_38_code 200 = .ok (.ireturn, 1) := by decide +kernel
theorem d_Main_isOne_0 : decode prog_1_method_39_code 0 = .ok (.iload_n 0, 1) := by decide +kernel
theorem d_Main_isOne_1 : decode prog_1_method_39_code 1 = .ok (.ifCond .lt 12, 3) := by decide +kernel
theorem d_Main_isOne_4 : decode prog_1_method_39_code 4 = .ok (.iload_n 0, 1) := by decide +kernel
theorem d_Main_isOne_5 : decode prog_1_method_39_code 5 = .ok (.iload_n 1, 1) := by decide +kernel
theorem d_Main_isOne_6 : decode prog_1_method_39_code 6 = .ok (.if_icmp .ge 7, 3) := by decide +kernel
theorem d_Main_isOne_9 : decode prog_1_method_39_code 9 = .ok (.iconst 1, 1) := by decide +kernel
theorem d_Main_isOne_10 : decode prog_1_method_39_code 10 = .ok (.goto 4, 3) := by decide +kernel
theorem d_Main_isOne_13 : decode prog_1_method_39_code 13 = .ok (.iconst 0, 1) := by decide +kernel
theorem d_Main_isOne_14 : decode prog_1_method_39_code 14 = .ok (.ireturn, 1) := by decide +kernel
theorem d_Main_hasBit_0 : decode prog_1_method_40_code 0 = .ok (.iload_n 0, 1) := by decide +kernel
theorem d_Main_hasBit_1 : decode prog_1_method_40_code 1 = .ok (.iload_n 1, 1) := by decide +kernel
theorem d_Main_hasBit_2 : decode prog_1_method_40_code 2 = .ok (.ishr, 1) := by decide +kernel
theorem d_Main_hasBit_3 : decode prog_1_method_40_code 3 = .ok (.iconst 1, 1) := by decide +kernel
theorem d_Main_hasBit_4 : decode prog_1_method_40_code 4 = .ok (.iand, 1) := by decide +kernel
theorem d_Main_hasBit_5 : decode prog_1_method_40_code 5 = .ok (.ifCond .eq 7, 3) := by decide +kernel
theorem d_Main_hasBit_8 : decode prog_1_method_40_code 8 = .ok (.iconst 1, 1) := by decide +kernel
theorem d_Main_hasBit_9 : decode prog_1_method_40_code 9 = .ok (.goto 4, 3) := by decide +kernel
theorem d_Main_hasBit_12 : decode prog_1_method_40_code 12 = .ok (.iconst 0, 1) := by decide +kernel
theorem d_Main_hasBit_13 : decode prog_1_method_40_code 13 = .ok (.ireturn, 1) := by decide +kernel
theorem d_Main_within_0 : decode prog_1_method_41_code 0 = .ok (.iload_n 1, 1) := by decide +kernel
theorem d_Main_within_1 : decode prog_1_method_41_code 1 = .ok (.iload_n 2, 1) := by decide +kernel
theorem d_Main_within_2 : decode prog_1_method_41_code 2 = .ok (.iload_n 0, 1) := by decide +kernel
theorem d_Main_within_3 : decode prog_1_method_41_code 3 = .ok (.invokestatic 313, 3) := by decide +kernel
theorem d_Main_within_6 : decode prog_1_method_41_code 6 = .ok (.invokestatic 316, 3) := by decide +kernel
theorem d_Main_within_9 : decode prog_1_method_41_code 9 = .ok (.ireturn, 1) := by decide +kernel
theorem d_Main_at_0 : decode prog_1_method_42_code 0 = .ok (.iload_n 1, 1) := by decide +kernel
theorem d_Main_at_1 : decode prog_1_method_42_code 1 = .ok (.ifCond .lt 15, 3) := by decide +kernel
theorem d_Main_at_4 : decode prog_1_method_42_code 4 = .ok (.iload_n 1, 1) := by decide +kernel
theorem d_Main_at_5 : decode prog_1_method_42_code 5 = .ok (.aload_n 0, 1) := by decide +kernel
theorem d_Main_at_6 : decode prog_1_method_42_code 6 = .ok (.arraylength, 1) := by decide +kernel
theorem d_Main_at_7 : decode prog_1_method_42_code 7 = .ok (.if_icmp .ge 9, 3) := by decide +kernel
theorem d_Main_at_10 : decode prog_1_method_42_code 10 = .ok (.aload_n 0, 1) := by decide +kernel
theorem d_Main_at_11 : decode prog_1_method_42_code 11 = .ok (.iload_n 1, 1) := by decide +kernel
theorem d_Main_at_12 : decode prog_1_method_42_code 12 = .ok (.iaload, 1) := by decide +kernel
theorem d_Main_at_13 : decode prog_1_method_42_code 13 = .ok (.goto 4, 3) := by decide +kernel
theorem d_Main_at_16 : decode prog_1_method_42_code 16 = .ok (.iconst 0, 1) := by decide +kernel
theorem d_Main_at_17 : decode prog_1_method_42_code 17 = .ok (.ireturn, 1) := by decide +kernel
theorem d_Main_put_0 : decode prog_1_method_43_code 0 = .ok (.iload_n 1, 1) := by decide +kernel
theorem d_Main_put_1 : decode prog_1_method_43_code 1 = .ok (.ifCond .lt 13, 3) := by decide +kernel
theorem d_Main_put_4 : decode prog_1_method_43_code 4 = .ok (.iload_n 1, 1) := by decide +kernel
theorem d_Main_put_5 : decode prog_1_method_43_code 5 = .ok (.aload_n 0, 1) := by decide +kernel
theorem d_Main_put_6 : decode prog_1_method_43_code 6 = .ok (.arraylength, 1) := by decide +kernel
theorem d_Main_put_7 : decode prog_1_method_43_code 7 = .ok (.if_icmp .ge 7, 3) := by decide +kernel
theorem d_Main_put_10 : decode prog_1_method_43_code 10 = .ok (.aload_n 0, 1) := by decide +kernel
theorem d_Main_put_11 : decode prog_1_method_43_code 11 = .ok (.iload_n 1, 1) := by decide +kernel
theorem d_Main_put_12 : decode prog_1_method_43_code 12 = .ok (.iload_n 2, 1) := by decide +kernel
theorem d_Main_put_13 : decode prog_1_method_43_code 13 = .ok (.iastore, 1) := by decide +kernel
theorem d_Main_put_14 : decode prog_1_method_43_code 14 = .ok (.return_, 1) := by decide +kernel
theorem d_Main_copyRow_0 : decode prog_1_method_44_code 0 = .ok (.iconst 0, 1) := by decide +kernel
theorem d_Main_copyRow_1 : decode prog_1_method_44_code 1 = .ok (.istore_n 2, 1) := by decide +kernel
theorem d_Main_copyRow_2 : decode prog_1_method_44_code 2 = .ok (.iload_n 2, 1) := by decide +kernel
theorem d_Main_copyRow_3 : decode prog_1_method_44_code 3 = .ok (.aload_n 0, 1) := by decide +kernel
theorem d_Main_copyRow_4 : decode prog_1_method_44_code 4 = .ok (.arraylength, 1) := by decide +kernel
theorem d_Main_copyRow_5 : decode prog_1_method_44_code 5 = .ok (.if_icmp .ge 21, 3) := by decide +kernel
theorem d_Main_copyRow_8 : decode prog_1_method_44_code 8 = .ok (.iload_n 2, 1) := by decide +kernel
theorem d_Main_copyRow_9 : decode prog_1_method_44_code 9 = .ok (.aload_n 1, 1) := by decide +kernel
theorem d_Main_copyRow_10 : decode prog_1_method_44_code 10 = .ok (.arraylength, 1) := by decide +kernel
theorem d_Main_copyRow_11 : decode prog_1_method_44_code 11 = .ok (.if_icmp .ge 15, 3) := by decide +kernel
theorem d_Main_copyRow_14 : decode prog_1_method_44_code 14 = .ok (.aload_n 1, 1) := by decide +kernel
theorem d_Main_copyRow_15 : decode prog_1_method_44_code 15 = .ok (.iload_n 2, 1) := by decide +kernel
theorem d_Main_copyRow_16 : decode prog_1_method_44_code 16 = .ok (.aload_n 0, 1) := by decide +kernel
theorem d_Main_copyRow_17 : decode prog_1_method_44_code 17 = .ok (.iload_n 2, 1) := by decide +kernel
theorem d_Main_copyRow_18 : decode prog_1_method_44_code 18 = .ok (.iaload, 1) := by decide +kernel
theorem d_Main_copyRow_19 : decode prog_1_method_44_code 19 = .ok (.iastore, 1) := by decide +kernel
theorem d_Main_copyRow_20 : decode prog_1_method_44_code 20 = .ok (.iinc 2 1, 3) := by decide +kernel
theorem d_Main_copyRow_23 : decode prog_1_method_44_code 23 = .ok (.goto (-21), 3) := by decide +kernel
theorem d_Main_copyRow_26 : decode prog_1_method_44_code 26 = .ok (.return_, 1) := by decide +kernel
theorem d_Main_wipe_0 : decode prog_1_method_45_code 0 = .ok (.iconst 0, 1) := by decide +kernel
theorem d_Main_wipe_1 : decode prog_1_method_45_code 1 = .ok (.istore_n 1, 1) := by decide +kernel
theorem d_Main_wipe_2 : decode prog_1_method_45_code 2 = .ok (.iload_n 1, 1) := by decide +kernel
theorem d_Main_wipe_3 : decode prog_1_method_45_code 3 = .ok (.aload_n 0, 1) := by decide +kernel
theorem d_Main_wipe_4 : decode prog_1_method_45_code 4 = .ok (.arraylength, 1) := by decide +kernel
theorem d_Main_wipe_5 : decode prog_1_method_45_code 5 = .ok (.if_icmp .ge 13, 3) := by decide +kernel
theorem d_Main_wipe_8 : decode prog_1_method_45_code 8 = .ok (.aload_n 0, 1) := by decide +kernel
theorem d_Main_wipe_9 : decode prog_1_method_45_code 9 = .ok (.iload_n 1, 1) := by decide +kernel
theorem d_Main_wipe_10 : decode prog_1_method_45_code 10 = .ok (.iconst 0, 1) := by decide +kernel
theorem d_Main_wipe_11 : decode prog_1_method_45_code 11 = .ok (.iastore, 1) := by decide +kernel
theorem d_Main_wipe_12 : decode prog_1_method_45_code 12 = .ok (.iinc 1 1, 3) := by decide +kernel
theorem d_Main_wipe_15 : decode prog_1_method_45_code 15 = .ok (.goto (-13), 3) := by decide +kernel
theorem d_Main_wipe_18 : decode prog_1_method_45_code 18 = .ok (.return_, 1) := by decide +kernel
theorem d_Land_init_0 : decode prog_2_method_1_code 0 = .ok (.aload_n 0, 1) := by decide +kernel
theorem d_Land_init_1 : decode prog_2_method_1_code 1 = .ok (.invokespecial 3, 3) := by decide +kernel
theorem d_Land_init_4 : decode prog_2_method_1_code 4 = .ok (.aload_n 0, 1) := by decide +kernel
theorem d_Land_init_5 : decode prog_2_method_1_code 5 = .ok (.bipush 6, 2) := by decide +kernel
theorem d_Land_init_7 : decode prog_2_method_1_code 7 = .ok (.newarray .int, 2) := by decide +kernel
theorem d_Land_init_9 : decode prog_2_method_1_code 9 = .ok (.putfield 9, 3) := by decide +kernel
theorem d_Land_init_12 : decode prog_2_method_1_code 12 = .ok (.aload_n 0, 1) := by decide +kernel
theorem d_Land_init_13 : decode prog_2_method_1_code 13 = .ok (.bipush 6, 2) := by decide +kernel
theorem d_Land_init_15 : decode prog_2_method_1_code 15 = .ok (.newarray .int, 2) := by decide +kernel
theorem d_Land_init_17 : decode prog_2_method_1_code 17 = .ok (.putfield 15, 3) := by decide +kernel
theorem d_Land_init_20 : decode prog_2_method_1_code 20 = .ok (.aload_n 0, 1) := by decide +kernel
theorem d_Land_init_21 : decode prog_2_method_1_code 21 = .ok (.bipush 18, 2) := by decide +kernel
theorem d_Land_init_23 : decode prog_2_method_1_code 23 = .ok (.newarray .int, 2) := by decide +kernel
theorem d_Land_init_25 : decode prog_2_method_1_code 25 = .ok (.putfield 18, 3) := by decide +kernel
theorem d_Land_init_28 : decode prog_2_method_1_code 28 = .ok (.aload_n 0, 1) := by decide +kernel
theorem d_Land_init_29 : decode prog_2_method_1_code 29 = .ok (.iconst 5, 1) := by decide +kernel
theorem d_Land_init_30 : decode prog_2_method_1_code 30 = .ok (.newarray .int, 2) := by decide +kernel
theorem d_Land_init_32 : decode prog_2_method_1_code 32 = .ok (.putfield 21, 3) := by decide +kernel
theorem d_Land_init_35 : decode prog_2_method_1_code 35 = .ok (.aload_n 0, 1) := by decide +kernel
theorem d_Land_init_36 : decode prog_2_method_1_code 36 = .ok (.bipush 30, 2) := by decide +kernel
theorem d_Land_init_38 : decode prog_2_method_1_code 38 = .ok (.newarray .int, 2) := by decide +kernel
theorem d_Land_init_40 : decode prog_2_method_1_code 40 = .ok (.putfield 24, 3) := by decide +kernel
theorem d_Land_init_43 : decode prog_2_method_1_code 43 = .ok (.aload_n 0, 1) := by decide +kernel
theorem d_Land_init_44 : decode prog_2_method_1_code 44 = .ok (.iconst 4, 1) := by decide +kernel
theorem d_Land_init_45 : decode prog_2_method_1_code 45 = .ok (.newarray .int, 2) := by decide +kernel
theorem d_Land_init_47 : decode prog_2_method_1_code 47 = .ok (.putfield 27, 3) := by decide +kernel
theorem d_Land_init_50 : decode prog_2_method_1_code 50 = .ok (.aload_n 0, 1) := by decide +kernel
theorem d_Land_init_51 : decode prog_2_method_1_code 51 = .ok (.bipush 6, 2) := by decide +kernel
theorem d_Land_init_53 : decode prog_2_method_1_code 53 = .ok (.newarray .int, 2) := by decide +kernel
theorem d_Land_init_55 : decode prog_2_method_1_code 55 = .ok (.putfield 30, 3) := by decide +kernel
theorem d_Land_init_58 : decode prog_2_method_1_code 58 = .ok (.aload_n 0, 1) := by decide +kernel
theorem d_Land_init_59 : decode prog_2_method_1_code 59 = .ok (.bipush 6, 2) := by decide +kernel
theorem d_Land_init_61 : decode prog_2_method_1_code 61 = .ok (.newarray .int, 2) := by decide +kernel
theorem d_Land_init_63 : decode prog_2_method_1_code 63 = .ok (.putfield 33, 3) := by decide +kernel
theorem d_Land_init_66 : decode prog_2_method_1_code 66 = .ok (.aload_n 0, 1) := by decide +kernel
theorem d_Land_init_67 : decode prog_2_method_1_code 67 = .ok (.new 36, 3) := by decide +kernel
theorem d_Land_init_70 : decode prog_2_method_1_code 70 = .ok (.dup, 1) := by decide +kernel
theorem d_Land_init_71 : decode prog_2_method_1_code 71 = .ok (.invokespecial 38, 3) := by decide +kernel
theorem d_Land_init_74 : decode prog_2_method_1_code 74 = .ok (.putfield 39, 3) := by decide +kernel
theorem d_Land_init_77 : decode prog_2_method_1_code 77 = .ok (.aload_n 0, 1) := by decide +kernel
theorem d_Land_init_78 : decode prog_2_method_1_code 78 = .ok (.new 36, 3) := by decide +kernel
theorem d_Land_init_81 : decode prog_2_method_1_code 81 = .ok (.dup, 1) := by decide +kernel
theorem d_Land_init_82 : decode prog_2_method_1_code 82 = .ok (.invokespecial 38, 3) := by decide +kernel
theorem d_Land_init_85 : decode prog_2_method_1_code 85 = .ok (.putfield 43, 3) := by decide +kernel
theorem d_Land_init_88 : decode prog_2_method_1_code 88 = .ok (.aload_n 0, 1) := by decide +kernel
theorem d_Land_init_89 : decode prog_2_method_1_code 89 = .ok (.new 36, 3) := by decide +kernel
theorem d_Land_init_92 : decode prog_2_method_1_code 92 = .ok (.dup, 1) := by decide +kernel
theorem d_Land_init_93 : decode prog_2_method_1_code 93 = .ok (.invokespecial 38, 3) := by decide +kernel
theorem d_Land_init_96 : decode prog_2_method_1_code 96 = .ok (.putfield 46, 3) := by decide +kernel
theorem d_Land_init_99 : decode prog_2_method_1_code 99 = .ok (.aload_n 0, 1) := by decide +kernel
theorem d_Land_init_100 : decode prog_2_method_1_code 100 = .ok (.new 36, 3) := by decide +kernel
theorem d_Land_init_103 : decode prog_2_method_1_code 103 = .ok (.dup, 1) := by decide +kernel
theorem d_Land_init_104 : decode prog_2_method_1_code 104 = .ok (.invokespecial 38, 3) := by decide +kernel
theorem d_Land_init_107 : decode prog_2_method_1_code 107 = .ok (.putfield 49, 3) := by decide +kernel
theorem d_Land_init_110 : decode prog_2_method_1_code 110 = .ok (.aload_n 0, 1) := by decide +kernel
theorem d_Land_init_111 : decode prog_2_method_1_code 111 = .ok (.iconst 3, 1) := by decide +kernel
theorem d_Land_init_112 : decode prog_2_method_1_code 112 = .ok (.newarray .int, 2) := by decide +kernel
theorem d_Land_init_114 : decode prog_2_method_1_code 114 = .ok (.putfield 52, 3) := by decide +kernel
theorem d_Land_init_117 : decode prog_2_method_1_code 117 = .ok (.return_, 1) := by decide +kernel
theorem d_Land_clear_0 : decode prog_2_method_2_code 0 = .ok (.aload_n 0, 1) := by decide +kernel
theorem d_Land_clear_1 : decode prog_2_method_2_code 1 = .ok (.iconst 0, 1) := by decide +kernel
theorem d_Land_clear_2 : decode prog_2_method_2_code 2 = .ok (.putfield 55, 3) := by decide +kernel
theorem d_Land_clear_5 : decode prog_2_method_2_code 5 = .ok (.aload_n 0, 1) := by decide +kernel
theorem d_Land_clear_6 : decode prog_2_method_2_code 6 = .ok (.iconst 0, 1) := by decide +kernel
theorem d_Land_clear_7 : decode prog_2_method_2_code 7 = .ok (.putfield 59, 3) := by decide +kernel
theorem d_Land_clear_10 : decode prog_2_method_2_code 10 = .ok (.aload_n 0, 1) := by decide +kernel
theorem d_Land_clear_11 : decode prog_2_method_2_code 11 = .ok (.iconst 0, 1) := by decide +kernel
theorem d_Land_clear_12 : decode prog_2_method_2_code 12 = .ok (.putfield 62, 3) := by decide +kernel
theorem d_Land_clear_15 : decode prog_2_method_2_code 15 = .ok (.aload_n 0, 1) := by decide +kernel
theorem d_Land_clear_16 : decode prog_2_method_2_code 16 = .ok (.iconst 0, 1) := by decide +kernel
theorem d_Land_clear_17 : decode prog_2_method_2_code 17 = .ok (.putfield 65, 3) := by decide +kernel
theorem d_Land_clear_20 : decode prog_2_method_2_code 20 = .ok (.aload_n 0, 1) := by decide +kernel
theorem d_Land_clear_21 : decode prog_2_method_2_code 21 = .ok (.iconst 0, 1) := by decide +kernel
theorem d_Land_clear_22 : decode prog_2_method_2_code 22 = .ok (.putfield 68, 3) := by decide +kernel
theorem d_Land_clear_25 : decode prog_2_method_2_code 25 = .ok (.aload_n 0, 1) := by decide +kernel
theorem d_Land_clear_26 : decode prog_2_method_2_code 26 = .ok (.getfield 24, 3) := by decide +kernel
theorem d_Land_clear_29 : decode prog_2_method_2_code 29 = .ok (.invokestatic 71, 3) := by decide +kernel
theorem d_Land_clear_32 : decode prog_2_method_2_code 32 = .ok (.aload_n 0, 1) := by decide +kernel
theorem d_Land_clear_33 : decode prog_2_method_2_code 33 = .ok (.getfield 39, 3) := by decide +kernel
theorem d_Land_clear_36 : decode prog_2_method_2_code 36 = .ok (.invokevirtual 75, 3) := by decide +kernel
theorem d_Land_clear_39 : decode prog_2_method_2_code 39 = .ok (.aload_n 0, 1) := by decide +kernel
theorem d_Land_clear_40 : decode prog_2_method_2_code 40 = .ok (.getfield 43, 3) := by decide +kernel
theorem d_Land_clear_43 : decode prog_2_method_2_code 43 = .ok (.invokevirtual 75, 3) := by decide +kernel
theorem d_Land_clear_46 : decode prog_2_method_2_code 46 = .ok (.aload_n 0, 1) := by decide +kernel
theorem d_Land_clear_47 : decode prog_2_method_2_code 47 = .ok (.getfield 46, 3) := by decide +kernel
theorem d_Land_clear_50 : decode prog_2_method_2_code 50 = .ok (.invokevirtual 75, 3) := by decide +kernel
theorem d_Land_clear_53 : decode prog_2_method_2_code 53 = .ok (.aload_n 0, 1) := by decide +kernel
theorem d_Land_clear_54 : decode prog_2_method_2_code 54 = .ok (.getfield 49, 3) := by decide +kernel
theorem d_Land_clear_57 : decode prog_2_method_2_code 57 = .ok (.invokevirtual 75, 3) := by decide +kernel
theorem d_Land_clear_60 : decode prog_2_method_2_code 60 = .ok (.return_, 1) := by decide +kernel
theorem d_Land_broughtBy_0 : decode prog_2_method_3_code 0 = .ok (.aload_n 0, 1) := by decide +kernel
theorem d_Land_broughtBy_1 : decode prog_2_method_3_code 1 = .ok (.getfield 18, 3) := by decide +kernel
theorem d_Land_broughtBy_4 : decode prog_2_method_3_code 4 = .ok (.iload_n 1, 1) := by decide +kernel
theorem d_Land_broughtBy_5 : decode prog_2_method_3_code 5 = .ok (.iconst 3, 1) := by decide +kernel
theorem d_Land_broughtBy_6 : decode prog_2_method_3_code 6 = .ok (.imul, 1) := by decide +kernel
theorem d_Land_broughtBy_7 : decode prog_2_method_3_code 7 = .ok (.iload_n 2, 1) := by decide +kernel
theorem d_Land_broughtBy_8 : decode prog_2_method_3_code 8 = .ok (.iadd, 1) := by decide +kernel
theorem d_Land_broughtBy_9 : decode prog_2_method_3_code 9 = .ok (.invokestatic 78, 3) := by decide +kernel
theorem d_Land_broughtBy_12 : decode prog_2_method_3_code 12 = .ok (.ireturn, 1) := by decide +kernel
theorem d_Land_inDish_0 : decode prog_2_method_4_code 0 = .ok (.aload_n 0, 1) := by decide +kernel
theorem d_Land_inDish_1 : decode prog_2_method_4_code 1 = .ok (.getfield 24, 3) := by decide +kernel
theorem d_Land_inDish_4 : decode prog_2_method_4_code 4 = .ok (.iload_n 1, 1) := by decide +kernel
theorem d_Land_inDish_5 : decode prog_2_method_4_code 5 = .ok (.bipush 6, 2) := by decide +kernel
theorem d_Land_inDish_7 : decode prog_2_method_4_code 7 = .ok (.imul, 1) := by decide +kernel
theorem d_Land_inDish_8 : decode prog_2_method_4_code 8 = .ok (.iload_n 2, 1) := by decide +kernel
theorem d_Land_inDish_9 : decode prog_2_method_4_code 9 = .ok (.iadd, 1) := by decide +kernel
theorem d_Land_inDish_10 : decode prog_2_method_4_code 10 = .ok (.invokestatic 78, 3) := by decide +kernel
theorem d_Land_inDish_13 : decode prog_2_method_4_code 13 = .ok (.ireturn, 1) := by decide +kernel
theorem d_Land_manyIn_0 : decode prog_2_method_5_code 0 = .ok (.iconst 0, 1) := by decide +kernel
theorem d_Land_manyIn_1 : decode prog_2_method_5_code 1 = .ok (.istore_n 2, 1) := by decide +kernel
theorem d_Land_manyIn_2 : decode prog_2_method_5_code 2 = .ok (.iconst 0, 1) := by decide +kernel
theorem d_Land_manyIn_3 : decode prog_2_method_5_code 3 = .ok (.istore_n 3, 1) := by decide +kernel
theorem d_Land_manyIn_4 : decode prog_2_method_5_code 4 = .ok (.iload_n 3, 1) := by decide +kernel
theorem d_Land_manyIn_5 : decode prog_2_method_5_code 5 = .ok (.aload_n 0, 1) := by decide +kernel
theorem d_Land_manyIn_6 : decode prog_2_method_5_code 6 = .ok (.getfield 55, 3) := by decide +kernel
theorem d_Land_manyIn_9 : decode prog_2_method_5_code 9 = .ok (.if_icmp .ge 18, 3) := by decide +kernel
theorem d_Land_manyIn_12 : decode prog_2_method_5_code 12 = .ok (.iload_n 2, 1) := by decide +kernel
theorem d_Land_manyIn_13 : decode prog_2_method_5_code 13 = .ok (.aload_n 0, 1) := by decide +kernel
theorem d_Land_manyIn_14 : decode prog_2_method_5_code 14 = .ok (.iload_n 1, 1) := by decide +kernel
theorem d_Land_manyIn_15 : decode prog_2_method_5_code 15 = .ok (.iload_n 3, 1) := by decide +kernel
theorem d_Land_manyIn_16 : decode prog_2_method_5_code 16 = .ok (.invokevirtual 82, 3) := by decide +kernel
theorem d_Land_manyIn_19 : decode prog_2_method_5_code 19 = .ok (.iadd, 1) := by decide +kernel
theorem d_Land_manyIn_20 : decode prog_2_method_5_code 20 = .ok (.istore_n 2, 1) := by decide +kernel
theorem d_Land_manyIn_21 : decode prog_2_method_5_code 21 = .ok (.iinc 3 1, 3) := by decide +kernel
theorem d_Land_manyIn_24 : decode prog_2_method_5_code 24 = .ok (.goto (-20), 3) := by decide +kernel
theorem d_Land_manyIn_27 : decode prog_2_method_5_code 27 = .ok (.iload_n 2, 1) := by decide +kernel
theorem d_Land_manyIn_28 : decode prog_2_method_5_code 28 = .ok (.ireturn, 1) := by decide +kernel
theorem d_Land_priceOf_0 : decode prog_2_method_6_code 0 = .ok (.iconst 0, 1) := by decide +kernel
theorem d_Land_priceOf_1 : decode prog_2_method_6_code 1 = .ok (.istore_n 2, 1) := by decide +kernel
theorem d_Land_priceOf_2 : decode prog_2_method_6_code 2 = .ok (.iconst 0, 1) := by decide +kernel
theorem d_Land_priceOf_3 : decode prog_2_method_6_code 3 = .ok (.istore_n 3, 1) := by decide +kernel
theorem d_Land_priceOf_4 : decode prog_2_method_6_code 4 = .ok (.iload_n 3, 1) := by decide +kernel
theorem d_Land_priceOf_5 : decode prog_2_method_6_code 5 = .ok (.aload_n 0, 1) := by decide +kernel
theorem d_Land_priceOf_6 : decode prog_2_method_6_code 6 = .ok (.getfield 55, 3) := by decide +kernel
theorem d_Land_priceOf_9 : decode prog_2_method_6_code 9 = .ok (.if_icmp .ge 27, 3) := by decide +kernel
theorem d_Land_priceOf_12 : decode prog_2_method_6_code 12 = .ok (.iload_n 2, 1) := by decide +kernel
theorem d_Land_priceOf_13 : decode prog_2_method_6_code 13 = .ok (.aload_n 0, 1) := by decide +kernel
theorem d_Land_priceOf_14 : decode prog_2_method_6_code 14 = .ok (.iload_n 1, 1) := by decide +kernel
theorem d_Land_priceOf_15 : decode prog_2_method_6_code 15 = .ok (.iload_n 3, 1) := by decide +kernel
theorem d_Land_priceOf_16 : decode prog_2_method_6_code 16 = .ok (.invokevirtual 82, 3) := by decide +kernel
theorem d_Land_priceOf_19 : decode prog_2_method_6_code 19 = .ok (.aload_n 0, 1) := by decide +kernel
theorem d_Land_priceOf_20 : decode prog_2_method_6_code 20 = .ok (.getfield 15, 3) := by decide +kernel
theorem d_Land_priceOf_23 : decode prog_2_method_6_code 23 = .ok (.iload_n 3, 1) := by decide +kernel
theorem d_Land_priceOf_24 : decode prog_2_method_6_code 24 = .ok (.invokestatic 78, 3) := by decide +kernel
theorem d_Land_priceOf_27 : decode prog_2_method_6_code 27 = .ok (.imul, 1) := by decide +kernel
theorem d_Land_priceOf_28 : decode prog_2_method_6_code 28 = .ok (.iadd, 1) := by decide +kernel
theorem d_Land_priceOf_29 : decode prog_2_method_6_code 29 = .ok (.istore_n 2, 1) := by decide +kernel
theorem d_Land_priceOf_30 : decode prog_2_method_6_code 30 = .ok (.iinc 3 1, 3) := by decide +kernel
theorem d_Land_priceOf_33 : decode prog_2_method_6_code 33 = .ok (.goto (-29), 3) := by decide +kernel
theorem d_Land_priceOf_36 : decode prog_2_method_6_code 36 = .ok (.iload_n 2, 1) := by decide +kernel
theorem d_Land_priceOf_37 : decode prog_2_method_6_code 37 = .ok (.ireturn, 1) := by decide +kernel
theorem d_Land_sumOf_0 : decode prog_2_method_7_code 0 = .ok (.iconst 0, 1) := by decide +kernel
theorem d_Land_sumOf_1 : decode prog_2_method_7_code 1 = .ok (.istore_n 3, 1) := by decide +kernel
theorem d_Land_sumOf_2 : decode prog_2_method_7_code 2 = .ok (.iconst 0, 1) := by decide +kernel
theorem d_Land_sumOf_3 : decode prog_2_method_7_code 3 = .ok (.istore 4, 2) := by decide +kernel
theorem d_Land_sumOf_5 : decode prog_2_method_7_code 5 = .ok (.iload 4, 2) := by decide +kernel
theorem d_Land_sumOf_7 : decode prog_2_method_7_code 7 = .ok (.aload_n 0, 1) := by decide +kernel
theorem d_Land_sumOf_8 : decode prog_2_method_7_code 8 = .ok (.getfield 55, 3) := by decide +kernel
theorem d_Land_sumOf_11 : decode prog_2_method_7_code 11 = .ok (.if_icmp .ge 27, 3) := by decide +kernel
theorem d_Land_sumOf_14 : decode prog_2_method_7_code 14 = .ok (.iload_n 3, 1) := by decide +kernel
theorem d_Land_sumOf_15 : decode prog_2_method_7_code 15 = .ok (.aload_n 0, 1) := by decide +kernel
theorem d_Land_sumOf_16 : decode prog_2_method_7_code 16 = .ok (.iload_n 1, 1) := by decide +kernel
theorem d_Land_sumOf_17 : decode prog_2_method_7_code 17 = .ok (.iload 4, 2) := by decide +kernel
theorem d_Land_sumOf_19 : decode prog_2_method_7_code 19 = .ok (.invokevirtual 82, 3) := by decide +kernel
theorem d_Land_sumOf_22 : decode prog_2_method_7_code 22 = .ok (.aload_n 0, 1) := by decide +kernel
theorem d_Land_sumOf_23 : decode prog_2_method_7_code 23 = .ok (.iload 4, 2) := by decide +kernel
theorem d_Land_sumOf_25 : decode prog_2_method_7_code 25 = .ok (.iload_n 2, 1) := by decide +kernel
theorem d_Land_sumOf_26 : decode prog_2_method_7_code 26 = .ok (.invokevirtual 86, 3) := by decide +kernel
theorem d_Land_sumOf_29 : decode prog_2_method_7_code 29 = .ok (.imul, 1) := by decide +kernel
theorem d_Land_sumOf_30 : decode prog_2_method_7_code 30 = .ok (.iadd, 1) := by decide +kernel
theorem d_Land_sumOf_31 : decode prog_2_method_7_code 31 = .ok (.istore_n 3, 1) := by decide +kernel
theorem d_Land_sumOf_32 : decode prog_2_method_7_code 32 = .ok (.iinc 4 1, 3) := by decide +kernel
theorem d_Land_sumOf_35 : decode prog_2_method_7_code 35 = .ok (.goto (-30), 3) := by decide +kernel
theorem d_Land_sumOf_38 : decode prog_2_method_7_code 38 = .ok (.iload_n 3, 1) := by decide +kernel
theorem d_Land_sumOf_39 : decode prog_2_method_7_code 39 = .ok (.ireturn, 1) := by decide +kernel
theorem d_Land_potForce_0 : decode prog_2_method_8_code 0 = .ok (.aload_n 0, 1) := by decide +kernel
theorem d_Land_potForce_1 : decode prog_2_method_8_code 1 = .ok (.getfield 39, 3) := by decide +kernel
theorem d_Land_potForce_4 : decode prog_2_method_8_code 4 = .ok (.invokevirtual 89, 3) := by decide +kernel
theorem d_Land_potForce_7 : decode prog_2_method_8_code 7 = .ok (.ifCond .ne 11, 3) := by decide +kernel
theorem d_Land_potForce_10 : decode prog_2_method_8_code 10 = .ok (.iload_n 2, 1) := by decide +kernel
theorem d_Land_potForce_11 : decode prog_2_method_8_code 11 = .ok (.iconst 0, 1) := by decide +kernel
theorem d_Land_potForce_12 : decode prog_2_method_8_code 12 = .ok (.bipush 99, 2) := by decide +kernel
theorem d_Land_potForce_14 : decode prog_2_method_8_code 14 = .ok (.invokestatic 93, 3) := by decide +kernel
theorem d_Land_potForce_17 : decode prog_2_method_8_code 17 = .ok (.ireturn, 1) := by decide +kernel
theorem d_Land_potForce_18 : decode prog_2_method_8_code 18 = .ok (.aload_n 0, 1) := by decide +kernel
theorem d_Land_potForce_19 : decode prog_2_method_8_code 19 = .ok (.getfield 39, 3) := by decide +kernel
theorem d_Land_potForce_22 : decode prog_2_method_8_code 22 = .ok (.iconst 0, 1) := by decide +kernel
theorem d_Land_potForce_23 : decode prog_2_method_8_code 23 = .ok (.iload_n 2, 1) := by decide +kernel
theorem d_Land_potForce_24 : decode prog_2_method_8_code 24 = .ok (.invokevirtual 97, 3) := by decide +kernel
theorem d_Land_potForce_27 : decode prog_2_method_8_code 27 = .ok (.aload_n 0, 1) := by decide +kernel
theorem d_Land_potForce_28 : decode prog_2_method_8_code 28 = .ok (.getfield 39, 3) := by decide +kernel
theorem d_Land_potForce_31 : decode prog_2_method_8_code 31 = .ok (.iconst 1, 1) := by decide +kernel
theorem d_Land_potForce_32 : decode prog_2_method_8_code 32 = .ok (.iload_n 3, 1) := by decide +kernel
theorem d_Land_potForce_33 : decode prog_2_method_8_code 33 = .ok (.invokevirtual 97, 3) := by decide +kernel
theorem d_Land_potForce_36 : decode prog_2_method_8_code 36 = .ok (.aload_n 0, 1) := by decide +kernel
theorem d_Land_potForce_37 : decode prog_2_method_8_code 37 = .ok (.getfield 39, 3) := by decide +kernel
theorem d_Land_potForce_40 : decode prog_2_method_8_code 40 = .ok (.iconst 2, 1) := by decide +kernel
theorem d_Land_potForce_41 : decode prog_2_method_8_code 41 = .ok (.iload_n 1, 1) := by decide +kernel
theorem d_Land_potForce_42 : decode prog_2_method_8_code 42 = .ok (.invokevirtual 97, 3) := by decide +kernel
theorem d_Land_potForce_45 : decode prog_2_method_8_code 45 = .ok (.aload_n 0, 1) := by decide +kernel
theorem d_Land_potForce_46 : decode prog_2_method_8_code 46 = .ok (.getfield 39, 3) := by decide +kernel
theorem d_Land_potForce_49 : decode prog_2_method_8_code 49 = .ok (.iconst 3, 1) := by decide +kernel
theorem d_Land_potForce_50 : decode prog_2_method_8_code 50 = .ok (.iload 4, 2) := by decide +kernel
theorem d_Land_potForce_52 : decode prog_2_method_8_code 52 = .ok (.invokevirtual 97, 3) := by decide +kernel
theorem d_Land_potForce_55 : decode prog_2_method_8_code 55 = .ok (.aload_n 0, 1) := by decide +kernel
theorem d_Land_potForce_56 : decode prog_2_method_8_code 56 = .ok (.getfield 39, 3) := by decide +kernel
theorem d_Land_potForce_59 : decode prog_2_method_8_code 59 = .ok (.iconst 4, 1) := by decide +kernel
theorem d_Land_potForce_60 : decode prog_2_method_8_code 60 = .ok (.iload 5, 2) := by decide +kernel
theorem d_Land_potForce_62 : decode prog_2_method_8_code 62 = .ok (.invokevirtual 97, 3) := by decide +kernel
theorem d_Land_potForce_65 : decode prog_2_method_8_code 65 = .ok (.aload_n 0, 1) := by decide +kernel
theorem d_Land_potForce_66 : decode prog_2_method_8_code 66 = .ok (.getfield 39, 3) := by decide +kernel
theorem d_Land_potForce_69 : decode prog_2_method_8_code 69 = .ok (.invokevirtual 101, 3) := by decide +kernel
theorem d_Land_potForce_72 : decode prog_2_method_8_code 72 = .ok (.iconst 0, 1) := by decide +kernel
theorem d_Land_potForce_73 : decode prog_2_method_8_code 73 = .ok (.bipush 99, 2) := by decide +kernel
theorem d_Land_potForce_75 : decode prog_2_method_8_code 75 = .ok (.invokestatic 93, 3) := by decide +kernel
theorem d_Land_potForce_78 : decode prog_2_method_8_code 78 = .ok (.ireturn, 1) := by decide +kernel
theorem d_Land_dishForce_0 : decode prog_2_method_9_code 0 = .ok (.aload_n 0, 1) := by decide +kernel
theorem d_Land_dishForce_1 : decode prog_2_method_9_code 1 = .ok (.iload_n 1, 1) := by decide +kernel
theorem d_Land_dishForce_2 : decode prog_2_method_9_code 2 = .ok (.iload_n 3, 1) := by decide +kernel
theorem d_Land_dishForce_3 : decode prog_2_method_9_code 3 = .ok (.invokevirtual 105, 3) := by decide +kernel
theorem d_Land_dishForce_6 : decode prog_2_method_9_code 6 = .ok (.istore 5, 2) := by decide +kernel
theorem d_Land_dishForce_8 : decode prog_2_method_9_code 8 = .ok (.aload_n 0, 1) := by decide +kernel
theorem d_Land_dishForce_9 : decode prog_2_method_9_code 9 = .ok (.iload_n 1, 1) := by decide +kernel
theorem d_Land_dishForce_10 : decode prog_2_method_9_code 10 = .ok (.invokevirtual 108, 3) := by decide +kernel
theorem d_Land_dishForce_13 : decode prog_2_method_9_code 13 = .ok (.istore 6, 2) := by decide +kernel
theorem d_Land_dishForce_15 : decode prog_2_method_9_code 15 = .ok (.iload_n 2, 1) := by decide +kernel
theorem d_Land_dishForce_16 : decode prog_2_method_9_code 16 = .ok (.ifCond .lt 17, 3) := by decide +kernel
theorem d_Land_dishForce_19 : decode prog_2_method_9_code 19 = .ok (.iload 5, 2) := by decide +kernel
theorem d_Land_dishForce_21 : decode prog_2_method_9_code 21 = .ok (.aload_n 0, 1) := by decide +kernel
theorem d_Land_dishForce_22 : decode prog_2_method_9_code 22 = .ok (.iload_n 2, 1) := by decide +kernel
theorem d_Land_dishForce_23 : decode prog_2_method_9_code 23 = .ok (.iload_n 3, 1) := by decide +kernel
theorem d_Land_dishForce_24 : decode prog_2_method_9_code 24 = .ok (.invokevirtual 86, 3) := by decide +kernel
theorem d_Land_dishForce_27 : decode prog_2_method_9_code 27 = .ok (.iadd, 1) := by decide +kernel
theorem d_Land_dishForce_28 : decode prog_2_method_9_code 28 = .ok (.istore 5, 2) := by decide +kernel
theorem d_Land_dishForce_30 : decode prog_2_method_9_code 30 = .ok (.iinc 6 1, 3) := by decide +kernel
theorem d_Land_dishForce_33 : decode prog_2_method_9_code 33 = .ok (.aload_n 0, 1) := by decide +kernel
theorem d_Land_dishForce_34 : decode prog_2_method_9_code 34 = .ok (.iload_n 3, 1) := by decide +kernel
theorem d_Land_dishForce_35 : decode prog_2_method_9_code 35 = .ok (.iload 5, 2) := by decide +kernel
theorem d_Land_dishForce_37 : decode prog_2_method_9_code 37 = .ok (.aload_n 0, 1) := by decide +kernel
theorem d_Land_dishForce_38 : decode prog_2_method_9_code 38 = .ok (.getfield 21, 3) := by decide +kernel
theorem d_Land_dishForce_41 : decode prog_2_method_9_code 41 = .ok (.iload_n 1, 1) := by decide +kernel
theorem d_Land_dishForce_42 : decode prog_2_method_9_code 42 = .ok (.invokestatic 78, 3) := by decide +kernel
theorem d_Land_dishForce_45 : decode prog_2_method_9_code 45 = .ok (.iload 6, 2) := by decide +kernel
theorem d_Land_dishForce_47 : decode prog_2_method_9_code 47 = .ok (.iload 4, 2) := by decide +kernel
theorem d_Land_dishForce_49 : decode prog_2_method_9_code 49 = .ok (.invokevirtual 112, 3) := by decide +kernel
theorem d_Land_dishForce_52 : decode prog_2_method_9_code 52 = .ok (.ireturn, 1) := by decide +kernel
theorem d_Land_boundBy_0 : decode prog_2_method_10_code 0 = .ok (.aload_n 0, 1) := by decide +kernel
theorem d_Land_boundBy_1 : decode prog_2_method_10_code 1 = .ok (.getfield 43, 3) := by decide +kernel
theorem d_Land_boundBy_4 : decode prog_2_method_10_code 4 = .ok (.invokevirtual 89, 3) := by decide +kernel
theorem d_Land_boundBy_7 : decode prog_2_method_10_code 7 = .ok (.ifCond .ne 14, 3) := by decide +kernel
theorem d_Land_boundBy_10 : decode prog_2_method_10_code 10 = .ok (.iload_n 3, 1) := by decide +kernel
theorem d_Land_boundBy_11 : decode prog_2_method_10_code 11 = .ok (.iload 4, 2) := by decide +kernel
theorem d_Land_boundBy_13 : decode prog_2_method_10_code 13 = .ok (.isub, 1) := by decide +kernel
theorem d_Land_boundBy_14 : decode prog_2_method_10_code 14 = .ok (.iconst 0, 1) := by decide +kernel
theorem d_Land_boundBy_15 : decode prog_2_method_10_code 15 = .ok (.bipush 99, 2) := by decide +kernel
theorem d_Land_boundBy_17 : decode prog_2_method_10_code 17 = .ok (.invokestatic 93, 3) := by decide +kernel
theorem d_Land_boundBy_20 : decode prog_2_method_10_code 20 = .ok (.ireturn, 1) := by decide +kernel
theorem d_Land_boundBy_21 : decode prog_2_method_10_code 21 = .ok (.aload_n 0, 1) := by decide +kernel
theorem d_Land_boundBy_22 : decode prog_2_method_10_code 22 = .ok (.getfield 43, 3) := by decide +kernel
theorem d_Land_boundBy_25 : decode prog_2_method_10_code 25 = .ok (.iconst 0, 1) := by decide +kernel
theorem d_Land_boundBy_26 : decode prog_2_method_10_code 26 = .ok (.iload_n 3, 1) := by decide +kernel
theorem d_Land_boundBy_27 : decode prog_2_method_10_code 27 = .ok (.invokevirtual 97, 3) := by decide +kernel
theorem d_Land_boundBy_30 : decode prog_2_method_10_code 30 = .ok (.aload_n 0, 1) := by decide +kernel
theorem d_Land_boundBy_31 : decode prog_2_method_10_code 31 = .ok (.getfield 43, 3) := by decide +kernel
theorem d_Land_boundBy_34 : decode prog_2_method_10_code 34 = .ok (.iconst 2, 1) := by decide +kernel
theorem d_Land_boundBy_35 : decode prog_2_method_10_code 35 = .ok (.iload_n 2, 1) := by decide +kernel
theorem d_Land_boundBy_36 : decode prog_2_method_10_code 36 = .ok (.invokevirtual 97, 3) := by decide +kernel
theorem d_Land_boundBy_39 : decode prog_2_method_10_code 39 = .ok (.aload_n 0, 1) := by decide +kernel
theorem d_Land_boundBy_40 : decode prog_2_method_10_code 40 = .ok (.getfield 43, 3) := by decide +kernel
theorem d_Land_boundBy_43 : decode prog_2_method_10_code 43 = .ok (.iconst 5, 1) := by decide +kernel
theorem d_Land_boundBy_44 : decode prog_2_method_10_code 44 = .ok (.aload_n 0, 1) := by decide +kernel
theorem d_Land_boundBy_45 : decode prog_2_method_10_code 45 = .ok (.getfield 27, 3) := by decide +kernel
theorem d_Land_boundBy_48 : decode prog_2_method_10_code 48 = .ok (.iload_n 1, 1) := by decide +kernel
theorem d_Land_boundBy_49 : decode prog_2_method_10_code 49 = .ok (.invokestatic 78, 3) := by decide +kernel
theorem d_Land_boundBy_52 : decode prog_2_method_10_code 52 = .ok (.invokevirtual 97, 3) := by decide +kernel
theorem d_Land_boundBy_55 : decode prog_2_method_10_code 55 = .ok (.aload_n 0, 1) := by decide +kernel
theorem d_Land_boundBy_56 : decode prog_2_method_10_code 56 = .ok (.getfield 43, 3) := by decide +kernel
theorem d_Land_boundBy_59 : decode prog_2_method_10_code 59 = .ok (.bipush 6, 2) := by decide +kernel
theorem d_Land_boundBy_61 : decode prog_2_method_10_code 61 = .ok (.iload 4, 2) := by decide +kernel
theorem d_Land_boundBy_63 : decode prog_2_method_10_code 63 = .ok (.invokevirtual 97, 3) := by decide +kernel
theorem d_Land_boundBy_66 : decode prog_2_method_10_code 66 = .ok (.aload_n 0, 1) := by decide +kernel
theorem d_Land_boundBy_67 : decode prog_2_method_10_code 67 = .ok (.getfield 43, 3) := by decide +kernel
theorem d_Land_boundBy_70 : decode prog_2_method_10_code 70 = .ok (.iconst 4, 1) := by decide +kernel
theorem d_Land_boundBy_71 : decode prog_2_method_10_code 71 = .ok (.iload 5, 2) := by decide +kernel
theorem d_Land_boundBy_73 : decode prog_2_method_10_code 73 = .ok (.invokevirtual 97, 3) := by decide +kernel
theorem d_Land_boundBy_76 : decode prog_2_method_10_code 76 = .ok (.aload_n 0, 1) := by decide +kernel
theorem d_Land_boundBy_77 : decode prog_2_method_10_code 77 = .ok (.getfield 43, 3) := by decide +kernel
theorem d_Land_boundBy_80 : decode prog_2_method_10_code 80 = .ok (.invokevirtual 101, 3) := by decide +kernel
theorem d_Land_boundBy_83 : decode prog_2_method_10_code 83 = .ok (.iconst 0, 1) := by decide +kernel
theorem d_Land_boundBy_84 : decode prog_2_method_10_code 84 = .ok (.bipush 99, 2) := by decide +kernel
theorem d_Land_boundBy_86 : decode prog_2_method_10_code 86 = .ok (.invokestatic 93, 3) := by decide +kernel
theorem d_Land_boundBy_89 : decode prog_2_method_10_code 89 = .ok (.ireturn, 1) := by decide +kernel
theorem d_Land_freeUnder_0 : decode prog_2_method_11_code 0 = .ok (.iconst 0, 1) := by decide +kernel
theorem d_Land_freeUnder_1 : decode prog_2_method_11_code 1 = .ok (.istore_n 3, 1) := by decide +kernel
theorem d_Land_freeUnder_2 : decode prog_2_method_11_code 2 = .ok (.iconst 0, 1) := by decide +kernel
theorem d_Land_freeUnder_3 : decode prog_2_method_11_code 3 = .ok (.istore 4, 2) := by decide +kernel
theorem d_Land_freeUnder_5 : decode prog_2_method_11_code 5 = .ok (.iload 4, 2) := by decide +kernel
theorem d_Land_freeUnder_7 : decode prog_2_method_11_code 7 = .ok (.aload_n 0, 1) := by decide +kernel
theorem d_Land_freeUnder_8 : decode prog_2_method_11_code 8 = .ok (.getfield 65, 3) := by decide +kernel
theorem d_Land_freeUnder_11 : decode prog_2_method_11_code 11 = .ok (.if_icmp .ge 42, 3) := by decide +kernel
theorem d_Land_freeUnder_14 : decode prog_2_method_11_code 14 = .ok (.aload_n 0, 1) := by decide +kernel
theorem d_Land_freeUnder_15 : decode prog_2_method_11_code 15 = .ok (.getfield 30, 3) := by decide +kernel
theorem d_Land_freeUnder_18 : decode prog_2_method_11_code 18 = .ok (.iload 4, 2) := by decide +kernel
theorem d_Land_freeUnder_20 : decode prog_2_method_11_code 20 = .ok (.invokestatic 78, 3) := by decide +kernel
theorem d_Land_freeUnder_23 : decode prog_2_method_11_code 23 = .ok (.iload_n 1, 1) := by decide +kernel
theorem d_Land_freeUnder_24 : decode prog_2_method_11_code 24 = .ok (.if_icmp .ne 23, 3) := by decide +kernel
theorem d_Land_freeUnder_27 : decode prog_2_method_11_code 27 = .ok (.iload_n 2, 1) := by decide +kernel
theorem d_Land_freeUnder_28 : decode prog_2_method_11_code 28 = .ok (.aload_n 0, 1) := by decide +kernel
theorem d_Land_freeUnder_29 : decode prog_2_method_11_code 29 = .ok (.getfield 33, 3) := by decide +kernel
theorem d_Land_freeUnder_32 : decode prog_2_method_11_code 32 = .ok (.iload 4, 2) := by decide +kernel
theorem d_Land_freeUnder_34 : decode prog_2_method_11_code 34 = .ok (.invokestatic 78, 3) := by decide +kernel
theorem d_Land_freeUnder_37 : decode prog_2_method_11_code 37 = .ok (.if_icmp .ge 10, 3) := by decide +kernel
theorem d_Land_freeUnder_40 : decode prog_2_method_11_code 40 = .ok (.iload_n 3, 1) := by decide +kernel
theorem d_Land_freeUnder_41 : decode prog_2_method_11_code 41 = .ok (.iconst 1, 1) := by decide +kernel
theorem d_Land_freeUnder_42 : decode prog_2_method_11_code 42 = .ok (.iload 4, 2) := by decide +kernel
theorem d_Land_freeUnder_44 : decode prog_2_method_11_code 44 = .ok (.ishl, 1) := by decide +kernel
theorem d_Land_freeUnder_45 : decode prog_2_method_11_code 45 = .ok (.ior, 1) := by decide +kernel
theorem d_Land_freeUnder_46 : decode prog_2_method_11_code 46 = .ok (.istore_n 3, 1) := by decide +kernel
theorem d_Land_freeUnder_47 : decode prog_2_method_11_code 47 = .ok (.iinc 4 1, 3) := by decide +kernel
theorem d_Land_freeUnder_50 : decode prog_2_method_11_code 50 = .ok (.goto (-45), 3) := by decide +kernel
theorem d_Land_freeUnder_53 : decode prog_2_method_11_code 53 = .ok (.iload_n 3, 1) := by decide +kernel
theorem d_Land_freeUnder_54 : decode prog_2_method_11_code 54 = .ok (.ireturn, 1) := by decide +kernel
theorem d_Land_freeByDish_0 : decode prog_2_method_12_code 0 = .ok (.iconst 0, 1) := by decide +kernel
theorem d_Land_freeByDish_1 : decode prog_2_method_12_code 1 = .ok (.istore 5, 2) := by decide +kernel
theorem d_Land_freeByDish_3 : decode prog_2_method_12_code 3 = .ok (.iload 5, 2) := by decide +kernel
theorem d_Land_freeByDish_5 : decode prog_2_method_12_code 5 = .ok (.iconst 3, 1) := by decide +kernel
theorem d_Land_freeByDish_6 : decode prog_2_method_12_code 6 = .ok (.if_icmp .ge 28, 3) := by decide +kernel
theorem d_Land_freeByDish_9 : decode prog_2_method_12_code 9 = .ok (.aload_n 0, 1) := by decide +kernel
theorem d_Land_freeByDish_10 : decode prog_2_method_12_code 10 = .ok (.getfield 52, 3) := by decide +kernel
theorem d_Land_freeByDish_13 : decode prog_2_method_12_code 13 = .ok (.iload 5, 2) := by decide +kernel
theorem d_Land_freeByDish_15 : decode prog_2_method_12_code 15 = .ok (.aload_n 0, 1) := by decide +kernel
theorem d_Land_freeByDish_16 : decode prog_2_method_12_code 16 = .ok (.iload_n 2, 1) := by decide +kernel
theorem d_Land_freeByDish_17 : decode prog_2_method_12_code 17 = .ok (.bipush (-2), 2) := by decide +kernel
theorem d_Land_freeByDish_19 : decode prog_2_method_12_code 19 = .ok (.iload 5, 2) := by decide +kernel
theorem d_Land_freeByDish_21 : decode prog_2_method_12_code 21 = .ok (.iload_n 3, 1) := by decide +kernel
theorem d_Land_freeByDish_22 : decode prog_2_method_12_code 22 = .ok (.invokevirtual 116, 3) := by decide +kernel
theorem d_Land_freeByDish_25 : decode prog_2_method_12_code 25 = .ok (.invokestatic 120, 3) := by decide +kernel
theorem d_Land_freeByDish_28 : decode prog_2_method_12_code 28 = .ok (.iinc 5 1, 3) := by decide +kernel
theorem d_Land_freeByDish_31 : decode prog_2_method_12_code 31 = .ok (.goto (-28), 3) := by decide +kernel
theorem d_Land_freeByDish_34 : decode prog_2_method_12_code 34 = .ok (.iconst 0, 1) := by decide +kernel
theorem d_Land_freeByDish_35 : decode prog_2_method_12_code 35 = .ok (.istore 5, 2) := by decide +kernel
theorem d_Land_freeByDish_37 : decode prog_2_method_12_code 37 = .ok (.iconst 0, 1) := by decide +kernel
theorem d_Land_freeByDish_38 : decode prog_2_method_12_code 38 = .ok (.istore 6, 2) := by decide +kernel
theorem d_Land_freeByDish_40 : decode prog_2_method_12_code 40 = .ok (.iload 6, 2) := by decide +kernel
theorem d_Land_freeByDish_42 : decode prog_2_method_12_code 42 = .ok (.iconst 3, 1) := by decide +kernel
theorem d_Land_freeByDish_43 : decode prog_2_method_12_code 43 = .ok (.if_icmp .ge 42, 3) := by decide +kernel
theorem d_Land_freeByDish_46 : decode prog_2_method_12_code 46 = .ok (.iload 5, 2) := by decide +kernel
theorem d_Land_freeByDish_48 : decode prog_2_method_12_code 48 = .ok (.aload_n 0, 1) := by decide +kernel
theorem d_Land_freeByDish_49 : decode prog_2_method_12_code 49 = .ok (.iload 6, 2) := by decide +kernel
theorem d_Land_freeByDish_51 : decode prog_2_method_12_code 51 = .ok (.aload_n 0, 1) := by decide +kernel
theorem d_Land_freeByDish_52 : decode prog_2_method_12_code 52 = .ok (.iload_n 1, 1) := by decide +kernel
theorem d_Land_freeByDish_53 : decode prog_2_method_12_code 53 = .ok (.iload 6, 2) := by decide +kernel
theorem d_Land_freeByDish_55 : decode prog_2_method_12_code 55 = .ok (.aload_n 0, 1) := by decide +kernel
theorem d_Land_freeByDish_56 : decode prog_2_method_12_code 56 = .ok (.getfield 52, 3) := by decide +kernel
theorem d_Land_freeByDish_59 : decode prog_2_method_12_code 59 = .ok (.iload 6, 2) := by decide +kernel
theorem d_Land_freeByDish_61 : decode prog_2_method_12_code 61 = .ok (.invokestatic 78, 3) := by decide +kernel
theorem d_Land_freeByDish_64 : decode prog_2_method_12_code 64 = .ok (.iload 4, 2) := by decide +kernel
theorem d_Land_freeByDish_66 : decode prog_2_method_12_code 66 = .ok (.iload_n 3, 1) := by decide +kernel
theorem d_Land_freeByDish_67 : decode prog_2_method_12_code 67 = .ok (.iload 4, 2) := by decide +kernel
theorem d_Land_freeByDish_69 : decode prog_2_method_12_code 69 = .ok (.iadd, 1) := by decide +kernel
theorem d_Land_freeByDish_70 : decode prog_2_method_12_code 70 = .ok (.invokevirtual 124, 3) := by decide +kernel
theorem d_Land_freeByDish_73 : decode prog_2_method_12_code 73 = .ok (.invokevirtual 127, 3) := by decide +kernel
theorem d_Land_freeByDish_76 : decode prog_2_method_12_code 76 = .ok (.ior, 1) := by decide +kernel
theorem d_Land_freeByDish_77 : decode prog_2_method_12_code 77 = .ok (.istore 5, 2) := by decide +kernel
theorem d_Land_freeByDish_79 : decode prog_2_method_12_code 79 = .ok (.iinc 6 1, 3) := by decide +kernel
theorem d_Land_freeByDish_82 : decode prog_2_method_12_code 82 = .ok (.goto (-42), 3) := by decide +kernel
theorem d_Land_freeByDish_85 : decode prog_2_method_12_code 85 = .ok (.iload 5, 2) := by decide +kernel
theorem d_Land_freeByDish_87 : decode prog_2_method_12_code 87 = .ok (.ireturn, 1) := by decide +kernel
theorem d_Land_fillOf_0 : decode prog_2_method_13_code 0 = .ok (.aload_n 0, 1) := by decide +kernel
theorem d_Land_fillOf_1 : decode prog_2_method_13_code 1 = .ok (.getfield 46, 3) := by decide +kernel
theorem d_Land_fillOf_4 : decode prog_2_method_13_code 4 = .ok (.invokevirtual 89, 3) := by decide +kernel
theorem d_Land_fillOf_7 : decode prog_2_method_13_code 7 = .ok (.ifCond .ne 5, 3) := by decide +kernel
theorem d_Land_fillOf_10 : decode prog_2_method_13_code 10 = .ok (.iconst 0, 1) := by decide +kernel
theorem d_Land_fillOf_11 : decode prog_2_method_13_code 11 = .ok (.ireturn, 1) := by decide +kernel
theorem d_Land_fillOf_12 : decode prog_2_method_13_code 12 = .ok (.aload_n 0, 1) := by decide +kernel
theorem d_Land_fillOf_13 : decode prog_2_method_13_code 13 = .ok (.getfield 46, 3) := by decide +kernel
theorem d_Land_fillOf_16 : decode prog_2_method_13_code 16 = .ok (.bipush 7, 2) := by decide +kernel
theorem d_Land_fillOf_18 : decode prog_2_method_13_code 18 = .ok (.iload_n 2, 1) := by decide +kernel
theorem d_Land_fillOf_19 : decode prog_2_method_13_code 19 = .ok (.invokevirtual 97, 3) := by decide +kernel
theorem d_Land_fillOf_22 : decode prog_2_method_13_code 22 = .ok (.aload_n 0, 1) := by decide +kernel
theorem d_Land_fillOf_23 : decode prog_2_method_13_code 23 = .ok (.getfield 46, 3) := by decide +kernel
theorem d_Land_fillOf_26 : decode prog_2_method_13_code 26 = .ok (.bipush 8, 2) := by decide +kernel
theorem d_Land_fillOf_28 : decode prog_2_method_13_code 28 = .ok (.aload_n 0, 1) := by decide +kernel
theorem d_Land_fillOf_29 : decode prog_2_method_13_code 29 = .ok (.getfield 15, 3) := by decide +kernel
theorem d_Land_fillOf_32 : decode prog_2_method_13_code 32 = .ok (.iload_n 1, 1) := by decide +kernel
theorem d_Land_fillOf_33 : decode prog_2_method_13_code 33 = .ok (.invokestatic 78, 3) := by decide +kernel
theorem d_Land_fillOf_36 : decode prog_2_method_13_code 36 = .ok (.invokevirtual 97, 3) := by decide +kernel
theorem d_Land_fillOf_39 : decode prog_2_method_13_code 39 = .ok (.aload_n 0, 1) := by decide +kernel
theorem d_Land_fillOf_40 : decode prog_2_method_13_code 40 = .ok (.getfield 46, 3) := by decide +kernel
theorem d_Land_fillOf_43 : decode prog_2_method_13_code 43 = .ok (.iconst 2, 1) := by decide +kernel
theorem d_Land_fillOf_44 : decode prog_2_method_13_code 44 = .ok (.iload_n 1, 1) := by decide +kernel
theorem d_Land_fillOf_45 : decode prog_2_method_13_code 45 = .ok (.invokevirtual 97, 3) := by decide +kernel
theorem d_Land_fillOf_48 : decode prog_2_method_13_code 48 = .ok (.aload_n 0, 1) := by decide +kernel
theorem d_Land_fillOf_49 : decode prog_2_method_13_code 49 = .ok (.getfield 46, 3) := by decide +kernel
theorem d_Land_fillOf_52 : decode prog_2_method_13_code 52 = .ok (.iconst 4, 1) := by decide +kernel
theorem d_Land_fillOf_53 : decode prog_2_method_13_code 53 = .ok (.iload_n 3, 1) := by decide +kernel
theorem d_Land_fillOf_54 : decode prog_2_method_13_code 54 = .ok (.invokevirtual 97, 3) := by decide +kernel
theorem d_Land_fillOf_57 : decode prog_2_method_13_code 57 = .ok (.aload_n 0, 1) := by decide +kernel
theorem d_Land_fillOf_58 : decode prog_2_method_13_code 58 = .ok (.getfield 46, 3) := by decide +kernel
theorem d_Land_fillOf_61 : decode prog_2_method_13_code 61 = .ok (.invokevirtual 101, 3) := by decide +kernel
theorem d_Land_fillOf_64 : decode prog_2_method_13_code 64 = .ok (.bipush (-9), 2) := by decide +kernel
theorem d_Land_fillOf_66 : decode prog_2_method_13_code 66 = .ok (.bipush 9, 2) := by decide +kernel
theorem d_Land_fillOf_68 : decode prog_2_method_13_code 68 = .ok (.invokestatic 93, 3) := by decide +kernel
theorem d_Land_fillOf_71 : decode prog_2_method_13_code 71 = .ok (.ireturn, 1) := by decide +kernel
theorem d_Land_slipsOf_0 : decode prog_2_method_14_code 0 = .ok (.aload_n 0, 1) := by decide +kernel
theorem d_Land_slipsOf_1 : decode prog_2_method_14_code 1 = .ok (.getfield 49, 3) := by decide +kernel
theorem d_Land_slipsOf_4 : decode prog_2_method_14_code 4 = .ok (.invokevirtual 89, 3) := by decide +kernel
theorem d_Land_slipsOf_7 : decode prog_2_method_14_code 7 = .ok (.ifCond .ne 5, 3) := by decide +kernel
theorem d_Land_slipsOf_10 : decode prog_2_method_14_code 10 = .ok (.iconst 0, 1) := by decide +kernel
theorem d_Land_slipsOf_11 : decode prog_2_method_14_code 11 = .ok (.ireturn, 1) := by decide +kernel
theorem d_Land_slipsOf_12 : decode prog_2_method_14_code 12 = .ok (.aload_n 0, 1) := by decide +kernel
theorem d_Land_slipsOf_13 : decode prog_2_method_14_code 13 = .ok (.getfield 49, 3) := by decide +kernel
theorem d_Land_slipsOf_16 : decode prog_2_method_14_code 16 = .ok (.iconst 1, 1) := by decide +kernel
theorem d_Land_slipsOf_17 : decode prog_2_method_14_code 17 = .ok (.aload_n 0, 1) := by decide +kernel
theorem d_Land_slipsOf_18 : decode prog_2_method_14_code 18 = .ok (.getfield 21, 3) := by decide +kernel
theorem d_Land_slipsOf_21 : decode prog_2_method_14_code 21 = .ok (.iload_n 1, 1) := by decide +kernel
theorem d_Land_slipsOf_22 : decode prog_2_method_14_code 22 = .ok (.invokestatic 78, 3) := by decide +kernel
theorem d_Land_slipsOf_25 : decode prog_2_method_14_code 25 = .ok (.invokevirtual 97, 3) := by decide +kernel
theorem d_Land_slipsOf_28 : decode prog_2_method_14_code 28 = .ok (.aload_n 0, 1) := by decide +kernel
theorem d_Land_slipsOf_29 : decode prog_2_method_14_code 29 = .ok (.getfield 49, 3) := by decide +kernel
theorem d_Land_slipsOf_32 : decode prog_2_method_14_code 32 = .ok (.iconst 3, 1) := by decide +kernel
theorem d_Land_slipsOf_33 : decode prog_2_method_14_code 33 = .ok (.aload_n 0, 1) := by decide +kernel
theorem d_Land_slipsOf_34 : decode prog_2_method_14_code 34 = .ok (.iload_n 1, 1) := by decide +kernel
theorem d_Land_slipsOf_35 : decode prog_2_method_14_code 35 = .ok (.invokevirtual 108, 3) := by decide +kernel
theorem d_Land_slipsOf_38 : decode prog_2_method_14_code 38 = .ok (.invokevirtual 97, 3) := by decide +kernel
theorem d_Land_slipsOf_41 : decode prog_2_method_14_code 41 = .ok (.aload_n 0, 1) := by decide +kernel
theorem d_Land_slipsOf_42 : decode prog_2_method_14_code 42 = .ok (.getfield 49, 3) := by decide +kernel
theorem d_Land_slipsOf_45 : decode prog_2_method_14_code 45 = .ok (.iconst 4, 1) := by decide +kernel
theorem d_Land_slipsOf_46 : decode prog_2_method_14_code 46 = .ok (.iload_n 2, 1) := by decide +kernel
theorem d_Land_slipsOf_47 : decode prog_2_method_14_code 47 = .ok (.invokevirtual 97, 3) := by decide +kernel
theorem d_Land_slipsOf_50 : decode prog_2_method_14_code 50 = .ok (.aload_n 0, 1) := by decide +kernel
theorem d_Land_slipsOf_51 : decode prog_2_method_14_code 51 = .ok (.getfield 49, 3) := by decide +kernel
theorem d_Land_slipsOf_54 : decode prog_2_method_14_code 54 = .ok (.invokevirtual 101, 3) := by decide +kernel
theorem d_Land_slipsOf_57 : decode prog_2_method_14_code 57 = .ok (.iconst 0, 1) := by decide +kernel
theorem d_Land_slipsOf_58 : decode prog_2_method_14_code 58 = .ok (.bipush 100, 2) := by decide +kernel
theorem d_Land_slipsOf_60 : decode prog_2_method_14_code 60 = .ok (.invokestatic 93, 3) := by decide +kernel
theorem d_Land_slipsOf_63 : decode prog_2_method_14_code 63 = .ok (.ireturn, 1) := by decide +kernel
theorem d_Land_lot_0 : decode prog_2_method_15_code 0 = .ok (.iload_n 1, 1) := by decide +kernel
theorem d_Land_lot_1 : decode prog_2_method_15_code 1 = .ok (.bipush 103, 2) := by decide +kernel
theorem d_Land_lot_3 : decode prog_2_method_15_code 3 = .ok (.invokestatic 130, 3) := by decide +kernel
theorem d_Land_lot_6 : decode prog_2_method_15_code 6 = .ok (.iload_n 2, 1) := by decide +kernel
theorem d_Land_lot_7 : decode prog_2_method_15_code 7 = .ok (.invokestatic 130, 3) := by decide +kernel
theorem d_Land_lot_10 : decode prog_2_method_15_code 10 = .ok (.istore_n 3, 1) := by decide +kernel
theorem d_Land_lot_11 : decode prog_2_method_15_code 11 = .ok (.iload_n 0, 1) := by decide +kernel
theorem d_Land_lot_12 : decode prog_2_method_15_code 12 = .ok (.ifCond .le 11, 3) := by decide +kernel
theorem d_Land_lot_15 : decode prog_2_method_15_code 15 = .ok (.iload_n 3, 1) := by decide +kernel
theorem d_Land_lot_16 : decode prog_2_method_15_code 16 = .ok (.iconst 1, 1) := by decide +kernel
theorem d_Land_lot_17 : decode prog_2_method_15_code 17 = .ok (.iushr, 1) := by decide +kernel
theorem d_Land_lot_18 : decode prog_2_method_15_code 18 = .ok (.iload_n 0, 1) := by decide +kernel
theorem d_Land_lot_19 : decode prog_2_method_15_code 19 = .ok (.irem, 1) := by decide +kernel
theorem d_Land_lot_20 : decode prog_2_method_15_code 20 = .ok (.goto 4, 3) := by decide +kernel
theorem d_Land_lot_23 : decode prog_2_method_15_code 23 = .ok (.iconst 0, 1) := by decide +kernel
theorem d_Land_lot_24 : decode prog_2_method_15_code 24 = .ok (.ireturn, 1) := by decide +kernel
theorem d_Land_stirred_0 : decode prog_2_method_16_code 0 = .ok (.iload_n 0, 1) := by decide +kernel
theorem d_Land_stirred_1 : decode prog_2_method_16_code 1 = .ok (.iload_n 1, 1) := by decide +kernel
theorem d_Land_stirred_2 : decode prog_2_method_16_code 2 = .ok (.ixor, 1) := by decide +kernel
theorem d_Land_stirred_3 : decode prog_2_method_16_code 3 = .ok (.ldc 133, 2) := by decide +kernel
theorem d_Land_stirred_5 : decode prog_2_method_16_code 5 = .ok (.imul, 1) := by decide +kernel
theorem d_Land_stirred_6 : decode prog_2_method_16_code 6 = .ok (.sipush 12345, 3) := by decide +kernel
theorem d_Land_stirred_9 : decode prog_2_method_16_code 9 = .ok (.iadd, 1) := by decide +kernel
theorem d_Land_stirred_10 : decode prog_2_method_16_code 10 = .ok (.istore_n 2, 1) := by decide +kernel
theorem d_Land_stirred_11 : decode prog_2_method_16_code 11 = .ok (.iload_n 2, 1) := by decide +kernel
theorem d_Land_stirred_12 : decode prog_2_method_16_code 12 = .ok (.iload_n 2, 1) := by decide +kernel
theorem d_Land_stirred_13 : decode prog_2_method_16_code 13 = .ok (.bipush 15, 2) := by decide +kernel
theorem d_Land_stirred_15 : decode prog_2_method_16_code 15 = .ok (.iushr, 1) := by decide +kernel
theorem d_Land_stirred_16 : decode prog_2_method_16_code 16 = .ok (.ixor, 1) := by decide +kernel
theorem d_Land_stirred_17 : decode prog_2_method_16_code 17 = .ok (.ireturn, 1) := by decide +kernel
theorem d_Law_init_0 : decode prog_3_method_1_code 0 = .ok (.aload_n 0, 1) := by decide +kernel
theorem d_Law_init_1 : decode prog_3_method_1_code 1 = .ok (.invokespecial 5, 3) := by decide +kernel
theorem d_Law_init_4 : decode prog_3_method_1_code 4 = .ok (.aload_n 0, 1) := by decide +kernel
theorem d_Law_init_5 : decode prog_3_method_1_code 5 = .ok (.sipush 400, 3) := by decide +kernel
theorem d_Law_init_8 : decode prog_3_method_1_code 8 = .ok (.newarray .int, 2) := by decide +kernel
theorem d_Law_init_10 : decode prog_3_method_1_code 10 = .ok (.putfield 11, 3) := by decide +kernel
theorem d_Law_init_13 : decode prog_3_method_1_code 13 = .ok (.aload_n 0, 1) := by decide +kernel
theorem d_Law_init_14 : decode prog_3_method_1_code 14 = .ok (.bipush 9, 2) := by decide +kernel
theorem d_Law_init_16 : decode prog_3_method_1_code 16 = .ok (.newarray .int, 2) := by decide +kernel
theorem d_Law_init_18 : decode prog_3_method_1_code 18 = .ok (.putfield 15, 3) := by decide +kernel
theorem d_Law_init_21 : decode prog_3_method_1_code 21 = .ok (.aload_n 0, 1) := by decide +kernel
theorem d_Law_init_22 : decode prog_3_method_1_code 22 = .ok (.bipush 32, 2) := by decide +kernel
theorem d_Law_init_24 : decode prog_3_method_1_code 24 = .ok (.newarray .int, 2) := by decide +kernel
theorem d_Law_init_26 : decode prog_3_method_1_code 26 = .ok (.putfield 18, 3) := by decide +kernel
theorem d_Law_init_29 : decode prog_3_method_1_code 29 = .ok (.return_, 1) := by decide +kernel
theorem d_Law_clear_0 : decode prog_3_method_2_code 0 = .ok (.aload_n 0, 1) := by decide +kernel
theorem d_Law_clear_1 : decode prog_3_method_2_code 1 = .ok (.iconst 0, 1) := by decide +kernel
theorem d_Law_clear_2 : decode prog_3_method_2_code 2 = .ok (.putfield 21, 3) := by decide +kernel
theorem d_Law_clear_5 : decode prog_3_method_2_code 5 = .ok (.return_, 1) := by decide +kernel
theorem d_Law_isTold_0 : decode prog_3_method_3_code 0 = .ok (.aload_n 0, 1) := by decide +kernel
theorem d_Law_isTold_1 : decode prog_3_method_3_code 1 = .ok (.getfield 21, 3) := by decide +kernel
theorem d_Law_isTold_4 : decode prog_3_method_3_code 4 = .ok (.ifCond .le 7, 3) := by decide +kernel
theorem d_Law_isTold_7 : decode prog_3_method_3_code 7 = .ok (.iconst 1, 1) := by decide +kernel
theorem d_Law_isTold_8 : decode prog_3_method_3_code 8 = .ok (.goto 4, 3) := by decide +kernel
theorem d_Law_isTold_11 : decode prog_3_method_3_code 11 = .ok (.iconst 0, 1) := by decide +kernel
theorem d_Law_isTold_12 : decode prog_3_method_3_code 12 = .ok (.ireturn, 1) := by decide +kernel
theorem d_Law_looksAt_0 : decode prog_3_method_4_code 0 = .ok (.iconst 0, 1) := by decide +kernel
theorem d_Law_looksAt_1 : decode prog_3_method_4_code 1 = .ok (.istore_n 2, 1) := by decide +kernel
theorem d_Law_looksAt_2 : decode prog_3_method_4_code 2 = .ok (.iload_n 2, 1) := by decide +kernel
theorem d_Law_looksAt_3 : decode prog_3_method_4_code 3 = .ok (.aload_n 0, 1) := by decide +kernel
theorem d_Law_looksAt_4 : decode prog_3_method_4_code 4 = .ok (.getfield 21, 3) := by decide +kernel
theorem d_Law_looksAt_7 : decode prog_3_method_4_code 7 = .ok (.if_icmp .ge 34, 3) := by decide +kernel
theorem d_Law_looksAt_10 : decode prog_3_method_4_code 10 = .ok (.iload_n 2, 1) := by decide +kernel
theorem d_Law_looksAt_11 : decode prog_3_method_4_code 11 = .ok (.aload_n 0, 1) := by decide +kernel
theorem d_Law_looksAt_12 : decode prog_3_method_4_code 12 = .ok (.getfield 11, 3) := by decide +kernel
theorem d_Law_looksAt_15 : decode prog_3_method_4_code 15 = .ok (.arraylength, 1) := by decide +kernel
theorem d_Law_looksAt_16 : decode prog_3_method_4_code 16 = .ok (.if_icmp .ge 25, 3) := by decide +kernel
theorem d_Law_looksAt_19 : decode prog_3_method_4_code 19 = .ok (.aload_n 0, 1) := by decide +kernel
theorem d_Law_looksAt_20 : decode prog_3_method_4_code 20 = .ok (.getfield 11, 3) := by decide +kernel
theorem d_Law_looksAt_23 : decode prog_3_method_4_code 23 = .ok (.iload_n 2, 1) := by decide +kernel
theorem d_Law_looksAt_24 : decode prog_3_method_4_code 24 = .ok (.iaload, 1) := by decide +kernel
theorem d_Law_looksAt_25 : decode prog_3_method_4_code 25 = .ok (.sipush 10000, 3) := by decide +kernel
theorem d_Law_looksAt_28 : decode prog_3_method_4_code 28 = .ok (.iload_n 1, 1) := by decide +kernel
theorem d_Law_looksAt_29 : decode prog_3_method_4_code 29 = .ok (.iadd, 1) := by decide +kernel
theorem d_Law_looksAt_30 : decode prog_3_method_4_code 30 = .ok (.if_icmp .ne 5, 3) := by decide +kernel
theorem d_Law_looksAt_33 : decode prog_3_method_4_code 33 = .ok (.iconst 1, 1) := by decide +kernel
theorem d_Law_looksAt_34 : decode prog_3_method_4_code 34 = .ok (.ireturn, 1) := by decide +kernel
theorem d_Law_looksAt_35 : decode prog_3_method_4_code 35 = .ok (.iinc 2 1, 3) := by decide +kernel
theorem d_Law_looksAt_38 : decode prog_3_method_4_code 38 = .ok (.goto (-36), 3) := by decide +kernel
theorem d_Law_looksAt_41 : decode prog_3_method_4_code 41 = .ok (.iconst 0, 1) := by decide +kernel
theorem d_Law_looksAt_42 : decode prog_3_method_4_code 42 = .ok (.ireturn, 1) := by decide +kernel
theorem d_Law_let_0 : decode prog_3_method_5_code 0 = .ok (.aload_n 0, 1) := by decide +kernel
theorem d_Law_let_1 : decode prog_3_method_5_code 1 = .ok (.getfield 15, 3) := by decide +kernel
theorem d_Law_let_4 : decode prog_3_method_5_code 4 = .ok (.iload_n 1, 1) := by decide +kernel
theorem d_Law_let_5 : decode prog_3_method_5_code 5 = .ok (.iload_n 2, 1) := by decide +kernel
theorem d_Law_let_6 : decode prog_3_method_5_code 6 = .ok (.invokestatic 25, 3) := by decide +kernel
theorem d_Law_let_9 : decode prog_3_method_5_code 9 = .ok (.return_, 1) := by decide +kernel
theorem d_Law_add_0 : decode prog_3_method_6_code 0 = .ok (.aload_n 0, 1) := by decide +kernel
theorem d_Law_add_1 : decode prog_3_method_6_code 1 = .ok (.getfield 21, 3) := by decide +kernel
theorem d_Law_add_4 : decode prog_3_method_6_code 4 = .ok (.ifCond .lt 35, 3) := by decide +kernel
theorem d_Law_add_7 : decode prog_3_method_6_code 7 = .ok (.aload_n 0, 1) := by decide +kernel
theorem d_Law_add_8 : decode prog_3_method_6_code 8 = .ok (.getfield 21, 3) := by decide +kernel
theorem d_Law_add_11 : decode prog_3_method_6_code 11 = .ok (.aload_n 0, 1) := by decide +kernel
theorem d_Law_add_12 : decode prog_3_method_6_code 12 = .ok (.getfield 11, 3) := by decide +kernel
theorem d_Law_add_15 : decode prog_3_method_6_code 15 = .ok (.arraylength, 1) := by decide +kernel
theorem d_Law_add_16 : decode prog_3_method_6_code 16 = .ok (.if_icmp .ge 23, 3) := by decide +kernel
theorem d_Law_add_19 : decode prog_3_method_6_code 19 = .ok (.aload_n 0, 1) := by decide +kernel
theorem d_Law_add_20 : decode prog_3_method_6_code 20 = .ok (.getfield 11, 3) := by decide +kernel
theorem d_Law_add_23 : decode prog_3_method_6_code 23 = .ok (.aload_n 0, 1) := by decide +kernel
theorem d_Law_add_24 : decode prog_3_method_6_code 24 = .ok (.getfield 21, 3) := by decide +kernel
theorem d_Law_add_27 : decode prog_3_method_6_code 27 = .ok (.iload_n 1, 1) := by decide +kernel
theorem d_Law_add_28 : decode prog_3_method_6_code 28 = .ok (.iastore, 1) := by decide +kernel
theorem d_Law_add_29 : decode prog_3_method_6_code 29 = .ok (.aload_n 0, 1) := by decide +kernel
theorem d_Law_add_30 : decode prog_3_method_6_code 30 = .ok (.dup, 1) := by decide +kernel
theorem d_Law_add_31 : decode prog_3_method_6_code 31 = .ok (.getfield 21, 3) := by decide +kernel
theorem d_Law_add_34 : decode prog_3_method_6_code 34 = .ok (.iconst 1, 1) := by decide +kernel
theorem d_Law_add_35 : decode prog_3_method_6_code 35 = .ok (.iadd, 1) := by decide +kernel
theorem d_Law_add_36 : decode prog_3_method_6_code 36 = .ok (.putfield 21, 3) := by decide +kernel
theorem d_Law_add_39 : decode prog_3_method_6_code 39 = .ok (.return_, 1) := by decide +kernel
theorem d_Law_openIf_0 : decode prog_3_method_7_code 0 = .ok (.aload_n 0, 1) := by decide +kernel
theorem d_Law_openIf_1 : decode prog_3_method_7_code 1 = .ok (.sipush 20060, 3) := by decide +kernel
theorem d_Law_openIf_4 : decode prog_3_method_7_code 4 = .ok (.invokevirtual 29, 3) := by decide +kernel
theorem d_Law_openIf_7 : decode prog_3_method_7_code 7 = .ok (.aload_n 0, 1) := by decide +kernel
theorem d_Law_openIf_8 : decode prog_3_method_7_code 8 = .ok (.iconst 0, 1) := by decide +kernel
theorem d_Law_openIf_9 : decode prog_3_method_7_code 9 = .ok (.invokevirtual 29, 3) := by decide +kernel
theorem d_Law_openIf_12 : decode prog_3_method_7_code 12 = .ok (.aload_n 0, 1) := by decide +kernel
theorem d_Law_openIf_13 : decode prog_3_method_7_code 13 = .ok (.getfield 21, 3) := by decide +kernel
theorem d_Law_openIf_16 : decode prog_3_method_7_code 16 = .ok (.iconst 1, 1) := by decide +kernel
theorem d_Law_openIf_17 : decode prog_3_method_7_code 17 = .ok (.isub, 1) := by decide +kernel
theorem d_Law_openIf_18 : decode prog_3_method_7_code 18 = .ok (.ireturn, 1) := by decide +kernel
theorem d_Law_closeIf_0 : decode prog_3_method_8_code 0 = .ok (.aload_n 0, 1) := by decide +kernel
theorem d_Law_closeIf_1 : decode prog_3_method_8_code 1 = .ok (.sipush 20059, 3) := by decide +kernel
theorem d_Law_closeIf_4 : decode prog_3_method_8_code 4 = .ok (.invokevirtual 29, 3) := by decide +kernel
theorem d_Law_closeIf_7 : decode prog_3_method_8_code 7 = .ok (.aload_n 0, 1) := by decide +kernel
theorem d_Law_closeIf_8 : decode prog_3_method_8_code 8 = .ok (.getfield 11, 3) := by decide +kernel
theorem d_Law_closeIf_11 : decode prog_3_method_8_code 11 = .ok (.iload_n 1, 1) := by decide +kernel
theorem d_Law_closeIf_12 : decode prog_3_method_8_code 12 = .ok (.aload_n 0, 1) := by decide +kernel
theorem d_Law_closeIf_13 : decode prog_3_method_8_code 13 = .ok (.getfield 21, 3) := by decide +kernel
theorem d_Law_closeIf_16 : decode prog_3_method_8_code 16 = .ok (.invokestatic 25, 3) := by decide +kernel
theorem d_Law_closeIf_19 : decode prog_3_method_8_code 19 = .ok (.return_, 1) := by decide +kernel
theorem d_Law_value_0 : decode prog_3_method_9_code 0 = .ok (.iconst 0, 1) := by decide +kernel
theorem d_Law_value_1 : decode prog_3_method_9_code 1 = .ok (.istore_n 1, 1) := by decide +kernel
theorem d_Law_value_2 : decode prog_3_method_9_code 2 = .ok (.iconst 0, 1) := by decide +kernel
theorem d_Law_value_3 : decode prog_3_method_9_code 3 = .ok (.istore_n 2, 1) := by decide +kernel
theorem d_Law_value_4 : decode prog_3_method_9_code 4 = .ok (.iconst 0, 1) := by decide +kernel
theorem d_Law_value_5 : decode prog_3_method_9_code 5 = .ok (.istore_n 3, 1) := by decide +kernel
theorem d_Law_value_6 : decode prog_3_method_9_code 6 = .ok (.iload_n 3, 1) := by decide +kernel
theorem d_Law_value_7 : decode prog_3_method_9_code 7 = .ok (.sipush 400, 3) := by decide +kernel
theorem d_Law_value_10 : decode prog_3_method_9_code 10 = .ok (.if_icmp .ge 222, 3) := by decide +kernel
theorem d_Law_value_13 : decode prog_3_method_9_code 13 = .ok (.iload_n 2, 1) := by decide +kernel
theorem d_Law_value_14 : decode prog_3_method_9_code 14 = .ok (.ifCond .lt 218, 3) := by decide +kernel
theorem d_Law_value_17 : decode prog_3_method_9_code 17 = .ok (.iload_n 2, 1) := by decide +kernel
theorem d_Law_value_18 : decode prog_3_method_9_code 18 = .ok (.aload_n 0, 1) := by decide +kernel
theorem d_Law_value_19 : decode prog_3_method_9_code 19 = .ok (.getfield 21, 3) := by decide +kernel
theorem d_Law_value_22 : decode prog_3_method_9_code 22 = .ok (.if_icmp .ge 210, 3) := by decide +kernel
theorem d_Law_value_25 : decode prog_3_method_9_code 25 = .ok (.iload_n 2, 1) := by decide +kernel
theorem d_Law_value_26 : decode prog_3_method_9_code 26 = .ok (.aload_n 0, 1) := by decide +kernel
theorem d_Law_value_27 : decode prog_3_method_9_code 27 = .ok (.getfield 11, 3) := by decide +kernel
theorem d_Law_value_30 : decode prog_3_method_9_code 30 = .ok (.arraylength, 1) := by decide +kernel
theorem d_Law_value_31 : decode prog_3_method_9_code 31 = .ok (.if_icmp .ge 201, 3) := by decide +kernel
theorem d_Law_value_34 : decode prog_3_method_9_code 34 = .ok (.aload_n 0, 1) := by decide +kernel
theorem d_Law_value_35 : decode prog_3_method_9_code 35 = .ok (.getfield 11, 3) := by decide +kernel
theorem d_Law_value_38 : decode prog_3_method_9_code 38 = .ok (.iload_n 2, 1) := by decide +kernel
theorem d_Law_value_39 : decode prog_3_method_9_code 39 = .ok (.iaload, 1) := by decide +kernel
theorem d_Law_value_40 : decode prog_3_method_9_code 40 = .ok (.istore 4, 2) := by decide +kernel
theorem d_Law_value_42 : decode prog_3_method_9_code 42 = .ok (.iinc 2 1, 3) := by decide +kernel
theorem d_Law_value_45 : decode prog_3_method_9_code 45 = .ok (.iload 4, 2) := by decide +kernel
theorem d_Law_value_47 : decode prog_3_method_9_code 47 = .ok (.sipush 20059, 3) := by decide +kernel
theorem d_Law_value_50 : decode prog_3_method_9_code 50 = .ok (.if_icmp .ne 6, 3) := by decide +kernel
theorem d_Law_value_53 : decode prog_3_method_9_code 53 = .ok (.goto 179, 3) := by decide +kernel
theorem d_Law_value_56 : decode prog_3_method_9_code 56 = .ok (.iload 4, 2) := by decide +kernel
theorem d_Law_value_58 : decode prog_3_method_9_code 58 = .ok (.sipush 20000, 3) := by decide +kernel
theorem d_Law_value_61 : decode prog_3_method_9_code 61 = .ok (.if_icmp .ge 56, 3) := by decide +kernel
theorem d_Law_value_64 : decode prog_3_method_9_code 64 = .ok (.iload_n 1, 1) := by decide +kernel
theorem d_Law_value_65 : decode prog_3_method_9_code 65 = .ok (.ifCond .lt 12, 3) := by decide +kernel
theorem d_Law_value_68 : decode prog_3_method_9_code 68 = .ok (.iload_n 1, 1) := by decide +kernel
theorem d_Law_value_69 : decode prog_3_method_9_code 69 = .ok (.aload_n 0, 1) := by decide +kernel
theorem d_Law_value_70 : decode prog_3_method_9_code 70 = .ok (.getfield 18, 3) := by decide +kernel
theorem d_Law_value_73 : decode prog_3_method_9_code 73 = .ok (.arraylength, 1) := by decide +kernel
theorem d_Law_value_74 : decode prog_3_method_9_code 74 = .ok (.if_icmp .lt 5, 3) := by decide +kernel
theorem d_Law_value_77 : decode prog_3_method_9_code 77 = .ok (.iconst 0, 1) := by decide +kernel
theorem d_Law_value_78 : decode prog_3_method_9_code 78 = .ok (.ireturn, 1) := by decide +kernel
theorem d_Law_value_79 : decode prog_3_method_9_code 79 = .ok (.aload_n 0, 1) := by decide +kernel
theorem d_Law_value_80 : decode prog_3_method_9_code 80 = .ok (.getfield 18, 3) := by decide +kernel
theorem d_Law_value_83 : decode prog_3_method_9_code 83 = .ok (.iload_n 1, 1) := by decide +kernel
theorem d_Law_value_84 : decode prog_3_method_9_code 84 = .ok (.iload 4, 2) := by decide +kernel
theorem d_Law_value_86 : decode prog_3_method_9_code 86 = .ok (.sipush 10000, 3) := by decide +kernel
theorem d_Law_value_89 : decode prog_3_method_9_code 89 = .ok (.if_icmp .ge 8, 3) := by decide +kernel
theorem d_Law_value_92 : decode prog_3_method_9_code 92 = .ok (.iload 4, 2) := by decide +kernel
theorem d_Law_value_94 : decode prog_3_method_9_code 94 = .ok (.goto 16, 3) := by decide +kernel
theorem d_Law_value_97 : decode prog_3_method_9_code 97 = .ok (.aload_n 0, 1) := by decide +kernel
theorem d_Law_value_98 : decode prog_3_method_9_code 98 = .ok (.getfield 15, 3) := by decide +kernel
theorem d_Law_value_101 : decode prog_3_method_9_code 101 = .ok (.iload 4, 2) := by decide +kernel
theorem d_Law_value_103 : decode prog_3_method_9_code 103 = .ok (.sipush 10000, 3) := by decide +kernel
theorem d_Law_value_106 : decode prog_3_method_9_code 106 = .ok (.isub, 1) := by decide +kernel
theorem d_Law_value_107 : decode prog_3_method_9_code 107 = .ok (.invokestatic 33, 3) := by decide +kernel
theorem d_Law_value_110 : decode prog_3_method_9_code 110 = .ok (.iastore, 1) := by decide +kernel
theorem d_Law_value_111 : decode prog_3_method_9_code 111 = .ok (.iinc 1 1, 3) := by decide +kernel
theorem d_Law_value_114 : decode prog_3_method_9_code 114 = .ok (.goto 112, 3) := by decide +kernel
theorem d_Law_value_117 : decode prog_3_method_9_code 117 = .ok (.iload_n 1, 1) := by decide +kernel
theorem d_Law_value_118 : decode prog_3_method_9_code 118 = .ok (.iconst 2, 1) := by decide +kernel
theorem d_Law_value_119 : decode prog_3_method_9_code 119 = .ok (.if_icmp .lt 12, 3) := by decide +kernel
theorem d_Law_value_122 : decode prog_3_method_9_code 122 = .ok (.iload_n 1, 1) := by decide +kernel
theorem d_Law_value_123 : decode prog_3_method_9_code 123 = .ok (.aload_n 0, 1) := by decide +kernel
theorem d_Law_value_124 : decode prog_3_method_9_code 124 = .ok (.getfield 18, 3) := by decide +kernel
theorem d_Law_value_127 : decode prog_3_method_9_code 127 = .ok (.arraylength, 1) := by decide +kernel
theorem d_Law_value_128 : decode prog_3_method_9_code 128 = .ok (.if_icmp .le 5, 3) := by decide +kernel
theorem d_Law_value_131 : decode prog_3_method_9_code 131 = .ok (.iconst 0, 1) := by decide +kernel
theorem d_Law_value_132 : decode prog_3_method_9_code 132 = .ok (.ireturn, 1) := by decide +kernel
theorem d_Law_value_133 : decode prog_3_method_9_code 133 = .ok (.aload_n 0, 1) := by decide +kernel
theorem d_Law_value_134 : decode prog_3_method_9_code 134 = .ok (.getfield 18, 3) := by decide +kernel
theorem d_Law_value_137 : decode prog_3_method_9_code 137 = .ok (.iload_n 1, 1) := by decide +kernel
theorem d_Law_value_138 : decode prog_3_method_9_code 138 = .ok (.iconst 2, 1) := by decide +kernel
theorem d_Law_value_139 : decode prog_3_method_9_code 139 = .ok (.isub, 1) := by decide +kernel
theorem d_Law_value_140 : decode prog_3_method_9_code 140 = .ok (.iaload, 1) := by decide +kernel
theorem d_Law_value_141 : decode prog_3_method_9_code 141 = .ok (.istore 5, 2) := by decide +kernel
theorem d_Law_value_143 : decode prog_3_method_9_code 143 = .ok (.aload_n 0, 1) := by decide +kernel
theorem d_Law_value_144 : decode prog_3_method_9_code 144 = .ok (.getfield 18, 3) := by decide +kernel
theorem d_Law_value_147 : decode prog_3_method_9_code 147 = .ok (.iload_n 1, 1) := by decide +kernel
theorem d_Law_value_148 : decode prog_3_method_9_code 148 = .ok (.iconst 1, 1) := by decide +kernel
theorem d_Law_value_149 : decode prog_3_method_9_code 149 = .ok (.isub, 1) := by decide +kernel
theorem d_Law_value_150 : decode prog_3_method_9_code 150 = .ok (.iaload, 1) := by decide +kernel
theorem d_Law_value_151 : decode prog_3_method_9_code 151 = .ok (.istore 6, 2) := by decide +kernel
theorem d_Law_value_153 : decode prog_3_method_9_code 153 = .ok (.iinc 1 (-2), 3) := by decide +kernel
theorem d_Law_value_156 : decode prog_3_method_9_code 156 = .ok (.iload 4, 2) := by decide +kernel
theorem d_Law_value_158 : decode prog_3_method_9_code 158 = .ok (.sipush 20060, 3) := by decide +kernel
theorem d_Law_value_161 : decode prog_3_method_9_code 161 = .ok (.if_icmp .ne 28, 3) := by decide +kernel
theorem d_Law_value_164 : decode prog_3_method_9_code 164 = .ok (.iload 5, 2) := by decide +kernel
theorem d_Law_value_166 : decode prog_3_method_9_code 166 = .ok (.iload 6, 2) := by decide +kernel
theorem d_Law_value_168 : decode prog_3_method_9_code 168 = .ok (.if_icmp .ge 9, 3) := by decide +kernel
theorem d_Law_value_171 : decode prog_3_method_9_code 171 = .ok (.iload_n 2, 1) := by decide +kernel
theorem d_Law_value_172 : decode prog_3_method_9_code 172 = .ok (.iconst 1, 1) := by decide +kernel
theorem d_Law_value_173 : decode prog_3_method_9_code 173 = .ok (.iadd, 1) := by decide +kernel
theorem d_Law_value_174 : decode prog_3_method_9_code 174 = .ok (.goto 11, 3) := by decide +kernel
theorem d_Law_value_177 : decode prog_3_method_9_code 177 = .ok (.aload_n 0, 1) := by decide +kernel
theorem d_Law_value_178 : decode prog_3_method_9_code 178 = .ok (.getfield 11, 3) := by decide +kernel
theorem d_Law_value_181 : decode prog_3_method_9_code 181 = .ok (.iload_n 2, 1) := by decide +kernel
theorem d_Law_value_182 : decode prog_3_method_9_code 182 = .ok (.invokestatic 33, 3) := by decide +kernel
theorem d_Law_value_185 : decode prog_3_method_9_code 185 = .ok (.istore_n 2, 1) := by decide +kernel
theorem d_Law_value_186 : decode prog_3_method_9_code 186 = .ok (.goto 40, 3) := by decide +kernel
theorem d_Law_value_189 : decode prog_3_method_9_code 189 = .ok (.iload 4, 2) := by decide +kernel
theorem d_Law_value_191 : decode prog_3_method_9_code 191 = .ok (.sipush 20047, 3) := by decide +kernel
theorem d_Law_value_194 : decode prog_3_method_9_code 194 = .ok (.if_icmp .ne 10, 3) := by decide +kernel
theorem d_Law_value_197 : decode prog_3_method_9_code 197 = .ok (.iload 6, 2) := by decide +kernel
theorem d_Law_value_199 : decode prog_3_method_9_code 199 = .ok (.ifCond .ne 5, 3) := by decide +kernel
theorem d_Law_value_202 : decode prog_3_method_9_code 202 = .ok (.iconst 0, 1) := by decide +kernel
theorem d_Law_value_203 : decode prog_3_method_9_code 203 = .ok (.ireturn, 1) := by decide +kernel
theorem d_Law_value_204 : decode prog_3_method_9_code 204 = .ok (.aload_n 0, 1) := by decide +kernel
theorem d_Law_value_205 : decode prog_3_method_9_code 205 = .ok (.getfield 18, 3) := by decide +kernel
theorem d_Law_value_208 : decode prog_3_method_9_code 208 = .ok (.iload_n 1, 1) := by decide +kernel
theorem d_Law_value_209 : decode prog_3_method_9_code 209 = .ok (.iload 4, 2) := by decide +kernel
theorem d_Law_value_211 : decode prog_3_method_9_code 211 = .ok (.sipush 20000, 3) := by decide +kernel
theorem d_Law_value_214 : decode prog_3_method_9_code 214 = .ok (.isub, 1) := by decide +kernel
theorem d_Law_value_215 : decode prog_3_method_9_code 215 = .ok (.iload 5, 2) := by decide +kernel
theorem d_Law_value_217 : decode prog_3_method_9_code 217 = .ok (.iload 6, 2) := by decide +kernel
theorem d_Law_value_219 : decode prog_3_method_9_code 219 = .ok (.invokestatic 37, 3) := by decide +kernel
theorem d_Law_value_222 : decode prog_3_method_9_code 222 = .ok (.iastore, 1) := by decide +kernel
theorem d_Law_value_223 : decode prog_3_method_9_code 223 = .ok (.iinc 1 1, 3) := by decide +kernel
theorem d_Law_value_226 : decode prog_3_method_9_code 226 = .ok (.iinc 3 1, 3) := by decide +kernel
theorem d_Law_value_229 : decode prog_3_method_9_code 229 = .ok (.goto (-223), 3) := by decide +kernel
theorem d_Law_value_232 : decode prog_3_method_9_code 232 = .ok (.aload_n 0, 1) := by decide +kernel
theorem d_Law_value_233 : decode prog_3_method_9_code 233 = .ok (.getfield 18, 3) := by decide +kernel
theorem d_Law_value_236 : decode prog_3_method_9_code 236 = .ok (.iconst 0, 1) := by decide +kernel
theorem d_Law_value_237 : decode prog_3_method_9_code 237 = .ok (.invokestatic 33, 3) := by decide +kernel
theorem d_Law_value_240 : decode prog_3_method_9_code 240 = .ok (.ireturn, 1) := by decide +kernel
theorem d_Law_reckon_0 : decode prog_3_method_10_code 0 = .ok (.iload_n 0, 1) := by decide +kernel
theorem d_Law_reckon_1 : decode prog_3_method_10_code 1 = .ok (.tableswitch 43 42 45 #[39, 31, 43, 35], 31) := by decide +kernel
theorem d_Law_reckon_32 : decode prog_3_method_10_code 32 = .ok (.iload_n 1, 1) := by decide +kernel
theorem d_Law_reckon_33 : decode prog_3_method_10_code 33 = .ok (.iload_n 2, 1) := by decide +kernel
theorem d_Law_reckon_34 : decode prog_3_method_10_code 34 = .ok (.iadd, 1) := by decide +kernel
theorem d_Law_reckon_35 : decode prog_3_method_10_code 35 = .ok (.ireturn, 1) := by decide +kernel
theorem d_Law_reckon_36 : decode prog_3_method_10_code 36 = .ok (.iload_n 1, 1) := by decide +kernel
theorem d_Law_reckon_37 : decode prog_3_method_10_code 37 = .ok (.iload_n 2, 1) := by decide +kernel
theorem d_Law_reckon_38 : decode prog_3_method_10_code 38 = .ok (.isub, 1) := by decide +kernel
theorem d_Law_reckon_39 : decode prog_3_method_10_code 39 = .ok (.ireturn, 1) := by decide +kernel
theorem d_Law_reckon_40 : decode prog_3_method_10_code 40 = .ok (.iload_n 1, 1) := by decide +kernel
theorem d_Law_reckon_41 : decode prog_3_method_10_code 41 = .ok (.iload_n 2, 1) := by decide +kernel
theorem d_Law_reckon_42 : decode prog_3_method_10_code 42 = .ok (.imul, 1) := by decide +kernel
theorem d_Law_reckon_43 : decode prog_3_method_10_code 43 = .ok (.ireturn, 1) := by decide +kernel
theorem d_Law_reckon_44 : decode prog_3_method_10_code 44 = .ok (.iload_n 2, 1) := by decide +kernel
theorem d_Law_reckon_45 : decode prog_3_method_10_code 45 = .ok (.ifCond .ne 7, 3) := by decide +kernel
theorem d_Law_reckon_48 : decode prog_3_method_10_code 48 = .ok (.iconst 0, 1) := by decide +kernel
theorem d_Law_reckon_49 : decode prog_3_method_10_code 49 = .ok (.goto 6, 3) := by decide +kernel
theorem d_Law_reckon_52 : decode prog_3_method_10_code 52 = .ok (.iload_n 1, 1) := by decide +kernel
theorem d_Law_reckon_53 : decode prog_3_method_10_code 53 = .ok (.iload_n 2, 1) := by decide +kernel
theorem d_Law_reckon_54 : decode prog_3_method_10_code 54 = .ok (.idiv, 1) := by decide +kernel
theorem d_Law_reckon_55 : decode prog_3_method_10_code 55 = .ok (.ireturn, 1) := by decide +kernel
theorem d_MenuSearch_init_0 : decode prog_4_method_1_code 0 = .ok (.aload_n 0, 1) := by decide +kernel
theorem d_MenuSearch_init_1 : decode prog_4_method_1_code 1 = .ok (.invokespecial 3, 3) := by decide +kernel
theorem d_MenuSearch_init_4 : decode prog_4_method_1_code 4 = .ok (.aload_n 0, 1) := by decide +kernel
theorem d_MenuSearch_init_5 : decode prog_4_method_1_code 5 = .ok (.iconst 4, 1) := by decide +kernel
theorem d_MenuSearch_init_6 : decode prog_4_method_1_code 6 = .ok (.newarray .boolean, 2) := by decide +kernel
theorem d_MenuSearch_init_8 : decode prog_4_method_1_code 8 = .ok (.putfield 9, 3) := by decide +kernel
theorem d_MenuSearch_init_11 : decode prog_4_method_1_code 11 = .ok (.aload_n 0, 1) := by decide +kernel
theorem d_MenuSearch_init_12 : decode prog_4_method_1_code 12 = .ok (.bipush 80, 2) := by decide +kernel
theorem d_MenuSearch_init_14 : decode prog_4_method_1_code 14 = .ok (.newarray .boolean, 2) := by decide +kernel
theorem d_MenuSearch_init_16 : decode prog_4_method_1_code 16 = .ok (.putfield 15, 3) := by decide +kernel
theorem d_MenuSearch_init_19 : decode prog_4_method_1_code 19 = .ok (.aload_n 0, 1) := by decide +kernel
theorem d_MenuSearch_init_20 : decode prog_4_method_1_code 20 = .ok (.iconst 4, 1) := by decide +kernel
theorem d_MenuSearch_init_21 : decode prog_4_method_1_code 21 = .ok (.newarray .int, 2) := by decide +kernel
theorem d_MenuSearch_init_23 : decode prog_4_method_1_code 23 = .ok (.putfield 18, 3) := by decide +kernel
theorem d_MenuSearch_init_26 : decode prog_4_method_1_code 26 = .ok (.aload_n 0, 1) := by decide +kernel
theorem d_MenuSearch_init_27 : decode prog_4_method_1_code 27 = .ok (.iconst 4, 1) := by decide +kernel
theorem d_MenuSearch_init_28 : decode prog_4_method_1_code 28 = .ok (.newarray .int, 2) := by decide +kernel
theorem d_MenuSearch_init_30 : decode prog_4_method_1_code 30 = .ok (.putfield 22, 3) := by decide +kernel
theorem d_MenuSearch_init_33 : decode prog_4_method_1_code 33 = .ok (.return_, 1) := by decide +kernel
theorem d_MenuSearch_find_0 : decode prog_4_method_2_code 0 = .ok (.aload_n 0, 1) := by decide +kernel
theorem d_MenuSearch_find_1 : decode prog_4_method_2_code 1 = .ok (.aload_n 1, 1) := by decide +kernel
theorem d_MenuSearch_find_2 : decode prog_4_method_2_code 2 = .ok (.aload_n 2, 1) := by decide +kernel
theorem d_MenuSearch_find_3 : decode prog_4_method_2_code 3 = .ok (.iload_n 3, 1) := by decide +kernel
theorem d_MenuSearch_find_4 : decode prog_4_method_2_code 4 = .ok (.iload 5, 2) := by decide +kernel
theorem d_MenuSearch_find_6 : decode prog_4_method_2_code 6 = .ok (.invokevirtual 25, 3) := by decide +kernel
theorem d_MenuSearch_find_9 : decode prog_4_method_2_code 9 = .ok (.aload_n 0, 1) := by decide +kernel
theorem d_MenuSearch_find_10 : decode prog_4_method_2_code 10 = .ok (.aload_n 1, 1) := by decide +kernel
theorem d_MenuSearch_find_11 : decode prog_4_method_2_code 11 = .ok (.aload_n 2, 1) := by decide +kernel
theorem d_MenuSearch_find_12 : decode prog_4_method_2_code 12 = .ok (.getfield 29, 3) := by decide +kernel
theorem d_MenuSearch_find_15 : decode prog_4_method_2_code 15 = .ok (.iload_n 3, 1) := by decide +kernel
theorem d_MenuSearch_find_16 : decode prog_4_method_2_code 16 = .ok (.iload 4, 2) := by decide +kernel
theorem d_MenuSearch_find_18 : decode prog_4_method_2_code 18 = .ok (.iload 5, 2) := by decide +kernel
theorem d_MenuSearch_find_20 : decode prog_4_method_2_code 20 = .ok (.invokevirtual 35, 3) := by decide +kernel
theorem d_MenuSearch_find_23 : decode prog_4_method_2_code 23 = .ok (.aload_n 0, 1) := by decide +kernel
theorem d_MenuSearch_find_24 : decode prog_4_method_2_code 24 = .ok (.getfield 18, 3) := by decide +kernel
theorem d_MenuSearch_find_27 : decode prog_4_method_2_code 27 = .ok (.invokestatic 39, 3) := by decide +kernel
theorem d_MenuSearch_find_30 : decode prog_4_method_2_code 30 = .ok (.aload_n 0, 1) := by decide +kernel
theorem d_MenuSearch_find_31 : decode prog_4_method_2_code 31 = .ok (.iconst 5, 1) := by decide +kernel
theorem d_MenuSearch_find_32 : decode prog_4_method_2_code 32 = .ok (.putfield 43, 3) := by decide +kernel
theorem d_MenuSearch_find_35 : decode prog_4_method_2_code 35 = .ok (.iconst 0, 1) := by decide +kernel
theorem d_MenuSearch_find_36 : decode prog_4_method_2_code 36 = .ok (.istore 6, 2) := by decide +kernel
theorem d_MenuSearch_find_38 : decode prog_4_method_2_code 38 = .ok (.iload 6, 2) := by decide +kernel
theorem d_MenuSearch_find_40 : decode prog_4_method_2_code 40 = .ok (.sipush 1296, 3) := by decide +kernel
theorem d_MenuSearch_find_43 : decode prog_4_method_2_code 43 = .ok (.if_icmp .ge 64, 3) := by decide +kernel
theorem d_MenuSearch_find_46 : decode prog_4_method_2_code 46 = .ok (.aload_n 0, 1) := by decide +kernel
theorem d_MenuSearch_find_47 : decode prog_4_method_2_code 47 = .ok (.iload 4, 2) := by decide +kernel
theorem d_MenuSearch_find_49 : decode prog_4_method_2_code 49 = .ok (.invokevirtual 46, 3) := by decide +kernel
theorem d_MenuSearch_find_52 : decode prog_4_method_2_code 52 = .ok (.istore 7, 2) := by decide +kernel
theorem d_MenuSearch_find_54 : decode prog_4_method_2_code 54 = .ok (.iload 7, 2) := by decide +kernel
theorem d_MenuSearch_find_56 : decode prog_4_method_2_code 56 = .ok (.ifCond .lt 29, 3) := by decide +kernel
theorem d_MenuSearch_find_59 : decode prog_4_method_2_code 59 = .ok (.iload 7, 2) := by decide +kernel
theorem d_MenuSearch_find_61 : decode prog_4_method_2_code 61 = .ok (.aload_n 0, 1) := by decide +kernel
theorem d_MenuSearch_find_62 : decode prog_4_method_2_code 62 = .ok (.getfield 43, 3) := by decide +kernel
theorem d_MenuSearch_find_65 : decode prog_4_method_2_code 65 = .ok (.if_icmp .ge 20, 3) := by decide +kernel
theorem d_MenuSearch_find_68 : decode prog_4_method_2_code 68 = .ok (.aload_n 0, 1) := by decide +kernel
theorem d_MenuSearch_find_69 : decode prog_4_method_2_code 69 = .ok (.iload 7, 2) := by decide +kernel
theorem d_MenuSearch_find_71 : decode prog_4_method_2_code 71 = .ok (.putfield 43, 3) := by decide +kernel
theorem d_MenuSearch_find_74 : decode prog_4_method_2_code 74 = .ok (.aload_n 0, 1) := by decide +kernel
theorem d_MenuSearch_find_75 : decode prog_4_method_2_code 75 = .ok (.getfield 18, 3) := by decide +kernel
theorem d_MenuSearch_find_78 : decode prog_4_method_2_code 78 = .ok (.aload_n 0, 1) := by decide +kernel
theorem d_MenuSearch_find_79 : decode prog_4_method_2_code 79 = .ok (.getfield 22, 3) := by decide +kernel
theorem d_MenuSearch_find_82 : decode prog_4_method_2_code 82 = .ok (.invokestatic 50, 3) := by decide +kernel
theorem d_MenuSearch_find_85 : decode prog_4_method_2_code 85 = .ok (.aload_n 0, 1) := by decide +kernel
theorem d_MenuSearch_find_86 : decode prog_4_method_2_code 86 = .ok (.iload 4, 2) := by decide +kernel
theorem d_MenuSearch_find_88 : decode prog_4_method_2_code 88 = .ok (.aload_n 1, 1) := by decide +kernel
theorem d_MenuSearch_find_89 : decode prog_4_method_2_code 89 = .ok (.getfield 54, 3) := by decide +kernel
theorem d_MenuSearch_find_92 : decode prog_4_method_2_code 92 = .ok (.invokevirtual 59, 3) := by decide +kernel
theorem d_MenuSearch_find_95 : decode prog_4_method_2_code 95 = .ok (.ifCond .ne 6, 3) := by decide +kernel
theorem d_MenuSearch_find_98 : decode prog_4_method_2_code 98 = .ok (.goto 9, 3) := by decide +kernel
theorem d_MenuSearch_find_101 : decode prog_4_method_2_code 101 = .ok (.iinc 6 1, 3) := by decide +kernel
theorem d_MenuSearch_find_104 : decode prog_4_method_2_code 104 = .ok (.goto (-66), 3) := by decide +kernel
theorem d_MenuSearch_find_107 : decode prog_4_method_2_code 107 = .ok (.aload_n 0, 1) := by decide +kernel
theorem d_MenuSearch_find_108 : decode prog_4_method_2_code 108 = .ok (.getfield 43, 3) := by decide +kernel
theorem d_MenuSearch_find_111 : decode prog_4_method_2_code 111 = .ok (.iconst 4, 1) := by decide +kernel
theorem d_MenuSearch_find_112 : decode prog_4_method_2_code 112 = .ok (.if_icmp .gt 7, 3) := by decide +kernel
theorem d_MenuSearch_find_115 : decode prog_4_method_2_code 115 = .ok (.iconst 1, 1) := by decide +kernel
theorem d_MenuSearch_find_116 : decode prog_4_method_2_code 116 = .ok (.goto 4, 3) := by decide +kernel
theorem d_MenuSearch_find_119 : decode prog_4_method_2_code 119 = .ok (.iconst 0, 1) := by decide +kernel
theorem d_MenuSearch_find_120 : decode prog_4_method_2_code 120 = .ok (.ireturn, 1) := by decide +kernel
theorem d_MenuSearch_lookUnfed_0 : decode prog_4_method_3_code 0 = .ok (.iconst 0, 1) := by decide +kernel
theorem d_MenuSearch_lookUnfed_1 : decode prog_4_method_3_code 1 = .ok (.istore 5, 2) := by decide +kernel
theorem d_MenuSearch_lookUnfed_3 : decode prog_4_method_3_code 3 = .ok (.iload 5, 2) := by decide +kernel
theorem d_MenuSearch_lookUnfed_5 : decode prog_4_method_3_code 5 = .ok (.aload_n 0, 1) := by decide +kernel
theorem d_MenuSearch_lookUnfed_6 : decode prog_4_method_3_code 6 = .ok (.getfield 9, 3) := by decide +kernel
theorem d_MenuSearch_lookUnfed_9 : decode prog_4_method_3_code 9 = .ok (.arraylength, 1) := by decide +kernel
theorem d_MenuSearch_lookUnfed_10 : decode prog_4_method_3_code 10 = .ok (.if_icmp .ge 37, 3) := by decide +kernel
theorem d_MenuSearch_lookUnfed_13 : decode prog_4_method_3_code 13 = .ok (.aload_n 0, 1) := by decide +kernel
theorem d_MenuSearch_lookUnfed_14 : decode prog_4_method_3_code 14 = .ok (.getfield 9, 3) := by decide +kernel
theorem d_MenuSearch_lookUnfed_17 : decode prog_4_method_3_code 17 = .ok (.iload 5, 2) := by decide +kernel
theorem d_MenuSearch_lookUnfed_19 : decode prog_4_method_3_code 19 = .ok (.aload_n 2, 1) := by decide +kernel
theorem d_MenuSearch_lookUnfed_20 : decode prog_4_method_3_code 20 = .ok (.aload_n 1, 1) := by decide +kernel
theorem d_MenuSearch_lookUnfed_21 : decode prog_4_method_3_code 21 = .ok (.iload_n 3, 1) := by decide +kernel
theorem d_MenuSearch_lookUnfed_22 : decode prog_4_method_3_code 22 = .ok (.iload 5, 2) := by decide +kernel
theorem d_MenuSearch_lookUnfed_24 : decode prog_4_method_3_code 24 = .ok (.invokevirtual 63, 3) := by decide +kernel
theorem d_MenuSearch_lookUnfed_27 : decode prog_4_method_3_code 27 = .ok (.iload 4, 2) := by decide +kernel
theorem d_MenuSearch_lookUnfed_29 : decode prog_4_method_3_code 29 = .ok (.iand, 1) := by decide +kernel
theorem d_MenuSearch_lookUnfed_30 : decode prog_4_method_3_code 30 = .ok (.iload 4, 2) := by decide +kernel
theorem d_MenuSearch_lookUnfed_32 : decode prog_4_method_3_code 32 = .ok (.if_icmp .ne 7, 3) := by decide +kernel
theorem d_MenuSearch_lookUnfed_35 : decode prog_4_method_3_code 35 = .ok (.iconst 1, 1) := by decide +kernel
theorem d_MenuSearch_lookUnfed_36 : decode prog_4_method_3_code 36 = .ok (.goto 4, 3) := by decide +kernel
theorem d_MenuSearch_lookUnfed_39 : decode prog_4_method_3_code 39 = .ok (.iconst 0, 1) := by decide +kernel
theorem d_MenuSearch_lookUnfed_40 : decode prog_4_method_3_code 40 = .ok (.bastore, 1) := by decide +kernel
theorem d_MenuSearch_lookUnfed_41 : decode prog_4_method_3_code 41 = .ok (.iinc 5 1, 3) := by decide +kernel
theorem d_MenuSearch_lookUnfed_44 : decode prog_4_method_3_code 44 = .ok (.goto (-41), 3) := by decide +kernel
theorem d_MenuSearch_lookUnfed_47 : decode prog_4_method_3_code 47 = .ok (.return_, 1) := by decide +kernel
theorem d_MenuSearch_lookFed_0 : decode prog_4_method_4_code 0 = .ok (.iconst 0, 1) := by decide +kernel
theorem d_MenuSearch_lookFed_1 : decode prog_4_method_4_code 1 = .ok (.istore 6, 2) := by decide +kernel
theorem d_MenuSearch_lookFed_3 : decode prog_4_method_4_code 3 = .ok (.iload 6, 2) := by decide +kernel
theorem d_MenuSearch_lookFed_5 : decode prog_4_method_4_code 5 = .ok (.iload 4, 2) := by decide +kernel
theorem d_MenuSearch_lookFed_7 : decode prog_4_method_4_code 7 = .ok (.if_icmp .ge 110, 3) := by decide +kernel
theorem d_MenuSearch_lookFed_10 : decode prog_4_method_4_code 10 = .ok (.iconst 0, 1) := by decide +kernel
theorem d_MenuSearch_lookFed_11 : decode prog_4_method_4_code 11 = .ok (.istore 7, 2) := by decide +kernel
theorem d_MenuSearch_lookFed_13 : decode prog_4_method_4_code 13 = .ok (.iload 7, 2) := by decide +kernel
theorem d_MenuSearch_lookFed_15 : decode prog_4_method_4_code 15 = .ok (.aload_n 1, 1) := by decide +kernel
theorem d_MenuSearch_lookFed_16 : decode prog_4_method_4_code 16 = .ok (.getfield 54, 3) := by decide +kernel
theorem d_MenuSearch_lookFed_19 : decode prog_4_method_4_code 19 = .ok (.if_icmp .ge 92, 3) := by decide +kernel
theorem d_MenuSearch_lookFed_22 : decode prog_4_method_4_code 22 = .ok (.iload 6, 2) := by decide +kernel
theorem d_MenuSearch_lookFed_24 : decode prog_4_method_4_code 24 = .ok (.istore 8, 2) := by decide +kernel
theorem d_MenuSearch_lookFed_26 : decode prog_4_method_4_code 26 = .ok (.iload 8, 2) := by decide +kernel
theorem d_MenuSearch_lookFed_28 : decode prog_4_method_4_code 28 = .ok (.iload 4, 2) := by decide +kernel
theorem d_MenuSearch_lookFed_30 : decode prog_4_method_4_code 30 = .ok (.if_icmp .ge 75, 3) := by decide +kernel
theorem d_MenuSearch_lookFed_33 : decode prog_4_method_4_code 33 = .ok (.aload_n 1, 1) := by decide +kernel
theorem d_MenuSearch_lookFed_34 : decode prog_4_method_4_code 34 = .ok (.iload_n 3, 1) := by decide +kernel
theorem d_MenuSearch_lookFed_35 : decode prog_4_method_4_code 35 = .ok (.iload 7, 2) := by decide +kernel
theorem d_MenuSearch_lookFed_37 : decode prog_4_method_4_code 37 = .ok (.iload_n 2, 1) := by decide +kernel
theorem d_MenuSearch_lookFed_38 : decode prog_4_method_4_code 38 = .ok (.iload 6, 2) := by decide +kernel
theorem d_MenuSearch_lookFed_40 : decode prog_4_method_4_code 40 = .ok (.iadd, 1) := by decide +kernel
theorem d_MenuSearch_lookFed_41 : decode prog_4_method_4_code 41 = .ok (.iload 8, 2) := by decide +kernel
theorem d_MenuSearch_lookFed_43 : decode prog_4_method_4_code 43 = .ok (.iload 6, 2) := by decide +kernel
theorem d_MenuSearch_lookFed_45 : decode prog_4_method_4_code 45 = .ok (.isub, 1) := by decide +kernel
theorem d_MenuSearch_lookFed_46 : decode prog_4_method_4_code 46 = .ok (.invokevirtual 67, 3) := by decide +kernel
theorem d_MenuSearch_lookFed_49 : decode prog_4_method_4_code 49 = .ok (.istore 9, 2) := by decide +kernel
theorem d_MenuSearch_lookFed_51 : decode prog_4_method_4_code 51 = .ok (.iload 8, 2) := by decide +kernel
theorem d_MenuSearch_lookFed_53 : decode prog_4_method_4_code 53 = .ok (.iload 6, 2) := by decide +kernel
theorem d_MenuSearch_lookFed_55 : decode prog_4_method_4_code 55 = .ok (.iload 7, 2) := by decide +kernel
theorem d_MenuSearch_lookFed_57 : decode prog_4_method_4_code 57 = .ok (.invokestatic 71, 3) := by decide +kernel
theorem d_MenuSearch_lookFed_60 : decode prog_4_method_4_code 60 = .ok (.istore 10, 2) := by decide +kernel
theorem d_MenuSearch_lookFed_62 : decode prog_4_method_4_code 62 = .ok (.iload 10, 2) := by decide +kernel
theorem d_MenuSearch_lookFed_64 : decode prog_4_method_4_code 64 = .ok (.ifCond .lt 35, 3) := by decide +kernel
theorem d_MenuSearch_lookFed_67 : decode prog_4_method_4_code 67 = .ok (.iload 10, 2) := by decide +kernel
theorem d_MenuSearch_lookFed_69 : decode prog_4_method_4_code 69 = .ok (.aload_n 0, 1) := by decide +kernel
theorem d_MenuSearch_lookFed_70 : decode prog_4_method_4_code 70 = .ok (.getfield 15, 3) := by decide +kernel
theorem d_MenuSearch_lookFed_73 : decode prog_4_method_4_code 73 = .ok (.arraylength, 1) := by decide +kernel
theorem d_MenuSearch_lookFed_74 : decode prog_4_method_4_code 74 = .ok (.if_icmp .ge 25, 3) := by decide +kernel
theorem d_MenuSearch_lookFed_77 : decode prog_4_method_4_code 77 = .ok (.aload_n 0, 1) := by decide +kernel
theorem d_MenuSearch_lookFed_78 : decode prog_4_method_4_code 78 = .ok (.getfield 15, 3) := by decide +kernel
theorem d_MenuSearch_lookFed_81 : decode prog_4_method_4_code 81 = .ok (.iload 10, 2) := by decide +kernel
theorem d_MenuSearch_lookFed_83 : decode prog_4_method_4_code 83 = .ok (.iload 9, 2) := by decide +kernel
theorem d_MenuSearch_lookFed_85 : decode prog_4_method_4_code 85 = .ok (.iload 5, 2) := by decide +kernel
theorem d_MenuSearch_lookFed_87 : decode prog_4_method_4_code 87 = .ok (.iand, 1) := by decide +kernel
theorem d_MenuSearch_lookFed_88 : decode prog_4_method_4_code 88 = .ok (.iload 5, 2) := by decide +kernel
theorem d_MenuSearch_lookFed_90 : decode prog_4_method_4_code 90 = .ok (.if_icmp .ne 7, 3) := by decide +kernel
theorem d_MenuSearch_lookFed_93 : decode prog_4_method_4_code 93 = .ok (.iconst 1, 1) := by decide +kernel
theorem d_MenuSearch_lookFed_94 : decode prog_4_method_4_code 94 = .ok (.goto 4, 3) := by decide +kernel
theorem d_MenuSearch_lookFed_97 : decode prog_4_method_4_code 97 = .ok (.iconst 0, 1) := by decide +kernel
theorem d_MenuSearch_lookFed_98 : decode prog_4_method_4_code 98 = .ok (.bastore, 1) := by decide +kernel
theorem d_MenuSearch_lookFed_99 : decode prog_4_method_4_code 99 = .ok (.iinc 8 1, 3) := by decide +kernel
theorem d_MenuSearch_lookFed_102 : decode prog_4_method_4_code 102 = .ok (.goto (-76), 3) := by decide +kernel
theorem d_MenuSearch_lookFed_105 : decode prog_4_method_4_code 105 = .ok (.iinc 7 1, 3) := by decide +kernel
theorem d_MenuSearch_lookFed_108 : decode prog_4_method_4_code 108 = .ok (.goto (-95), 3) := by decide +kernel
theorem d_MenuSearch_lookFed_111 : decode prog_4_method_4_code 111 = .ok (.iinc 6 1, 3) := by decide +kernel
theorem d_MenuSearch_lookFed_114 : decode prog_4_method_4_code 114 = .ok (.goto (-111), 3) := by decide +kernel
theorem d_MenuSearch_lookFed_117 : decode prog_4_method_4_code 117 = .ok (.return_, 1) := by decide +kernel
theorem d_MenuSearch_indexOf_0 : decode prog_4_method_5_code 0 = .ok (.iload_n 0, 1) := by decide +kernel
theorem d_MenuSearch_indexOf_1 : decode prog_4_method_5_code 1 = .ok (.iconst 4, 1) := by decide +kernel
theorem d_MenuSearch_indexOf_2 : decode prog_4_method_5_code 2 = .ok (.imul, 1) := by decide +kernel
theorem d_MenuSearch_indexOf_3 : decode prog_4_method_5_code 3 = .ok (.iload_n 1, 1) := by decide +kernel
theorem d_MenuSearch_indexOf_4 : decode prog_4_method_5_code 4 = .ok (.iadd, 1) := by decide +kernel
theorem d_MenuSearch_indexOf_5 : decode prog_4_method_5_code 5 = .ok (.iconst 5, 1) := by decide +kernel
theorem d_MenuSearch_indexOf_6 : decode prog_4_method_5_code 6 = .ok (.imul, 1) := by decide +kernel
theorem d_MenuSearch_indexOf_7 : decode prog_4_method_5_code 7 = .ok (.iload_n 2, 1) := by decide +kernel
theorem d_MenuSearch_indexOf_8 : decode prog_4_method_5_code 8 = .ok (.iadd, 1) := by decide +kernel
theorem d_MenuSearch_indexOf_9 : decode prog_4_method_5_code 9 = .ok (.ireturn, 1) := by decide +kernel
theorem d_MenuSearch_isFree_0 : decode prog_4_method_6_code 0 = .ok (.iload_n 3, 1) := by decide +kernel
theorem d_MenuSearch_isFree_1 : decode prog_4_method_6_code 1 = .ok (.ifCond .ge 31, 3) := by decide +kernel
theorem d_MenuSearch_isFree_4 : decode prog_4_method_6_code 4 = .ok (.iload_n 1, 1) := by decide +kernel
theorem d_MenuSearch_isFree_5 : decode prog_4_method_6_code 5 = .ok (.ifCond .lt 25, 3) := by decide +kernel
theorem d_MenuSearch_isFree_8 : decode prog_4_method_6_code 8 = .ok (.iload_n 1, 1) := by decide +kernel
theorem d_MenuSearch_isFree_9 : decode prog_4_method_6_code 9 = .ok (.aload_n 0, 1) := by decide +kernel
theorem d_MenuSearch_isFree_10 : decode prog_4_method_6_code 10 = .ok (.getfield 9, 3) := by decide +kernel
theorem d_MenuSearch_isFree_13 : decode prog_4_method_6_code 13 = .ok (.arraylength, 1) := by decide +kernel
theorem d_MenuSearch_isFree_14 : decode prog_4_method_6_code 14 = .ok (.if_icmp .ge 16, 3) := by decide +kernel
theorem d_MenuSearch_isFree_17 : decode prog_4_method_6_code 17 = .ok (.aload_n 0, 1) := by decide +kernel
theorem d_MenuSearch_isFree_18 : decode prog_4_method_6_code 18 = .ok (.getfield 9, 3) := by decide +kernel
theorem d_MenuSearch_isFree_21 : decode prog_4_method_6_code 21 = .ok (.iload_n 1, 1) := by decide +kernel
theorem d_MenuSearch_isFree_22 : decode prog_4_method_6_code 22 = .ok (.baload, 1) := by decide +kernel
theorem d_MenuSearch_isFree_23 : decode prog_4_method_6_code 23 = .ok (.ifCond .eq 7, 3) := by decide +kernel
theorem d_MenuSearch_isFree_26 : decode prog_4_method_6_code 26 = .ok (.iconst 1, 1) := by decide +kernel
theorem d_MenuSearch_isFree_27 : decode prog_4_method_6_code 27 = .ok (.goto 4, 3) := by decide +kernel
theorem d_MenuSearch_isFree_30 : decode prog_4_method_6_code 30 = .ok (.iconst 0, 1) := by decide +kernel
theorem d_MenuSearch_isFree_31 : decode prog_4_method_6_code 31 = .ok (.ireturn, 1) := by decide +kernel
theorem d_MenuSearch_isFree_32 : decode prog_4_method_6_code 32 = .ok (.iload_n 1, 1) := by decide +kernel
theorem d_MenuSearch_isFree_33 : decode prog_4_method_6_code 33 = .ok (.iload_n 2, 1) := by decide +kernel
theorem d_MenuSearch_isFree_34 : decode prog_4_method_6_code 34 = .ok (.iload_n 3, 1) := by decide +kernel
theorem d_MenuSearch_isFree_35 : decode prog_4_method_6_code 35 = .ok (.invokestatic 71, 3) := by decide +kernel
theorem d_MenuSearch_isFree_38 : decode prog_4_method_6_code 38 = .ok (.istore 4, 2) := by decide +kernel
theorem d_MenuSearch_isFree_40 : decode prog_4_method_6_code 40 = .ok (.iload 4, 2) := by decide +kernel
theorem d_MenuSearch_isFree_42 : decode prog_4_method_6_code 42 = .ok (.ifCond .lt 27, 3) := by decide +kernel
theorem d_MenuSearch_isFree_45 : decode prog_4_method_6_code 45 = .ok (.iload 4, 2) := by decide +kernel
theorem d_MenuSearch_isFree_47 : decode prog_4_method_6_code 47 = .ok (.aload_n 0, 1) := by decide +kernel
theorem d_MenuSearch_isFree_48 : decode prog_4_method_6_code 48 = .ok (.getfield 15, 3) := by decide +kernel
theorem d_MenuSearch_isFree_51 : decode prog_4_method_6_code 51 = .ok (.arraylength, 1) := by decide +kernel
theorem d_MenuSearch_isFree_52 : decode prog_4_method_6_code 52 = .ok (.if_icmp .ge 17, 3) := by decide +kernel
theorem d_MenuSearch_isFree_55 : decode prog_4_method_6_code 55 = .ok (.aload_n 0, 1) := by decide +kernel
theorem d_MenuSearch_isFree_56 : decode prog_4_method_6_code 56 = .ok (.getfield 15, 3) := by decide +kernel
theorem d_MenuSearch_isFree_59 : decode prog_4_method_6_code 59 = .ok (.iload 4, 2) := by decide +kernel
theorem d_MenuSearch_isFree_61 : decode prog_4_method_6_code 61 = .ok (.baload, 1) := by decide +kernel
theorem d_MenuSearch_isFree_62 : decode prog_4_method_6_code 62 = .ok (.ifCond .eq 7, 3) := by decide +kernel
theorem d_MenuSearch_isFree_65 : decode prog_4_method_6_code 65 = .ok (.iconst 1, 1) := by decide +kernel
theorem d_MenuSearch_isFree_66 : decode prog_4_method_6_code 66 = .ok (.goto 4, 3) := by decide +kernel
theorem d_MenuSearch_isFree_69 : decode prog_4_method_6_code 69 = .ok (.iconst 0, 1) := by decide +kernel
theorem d_MenuSearch_isFree_70 : decode prog_4_method_6_code 70 = .ok (.ireturn, 1) := by decide +kernel
theorem d_MenuSearch_mealsIfAllFree_0 : decode prog_4_method_7_code 0 = .ok (.iconst 0, 1) := by decide +kernel
theorem d_MenuSearch_mealsIfAllFree_1 : decode prog_4_method_7_code 1 = .ok (.istore_n 2, 1) := by decide +kernel
theorem d_MenuSearch_mealsIfAllFree_2 : decode prog_4_method_7_code 2 = .ok (.iconst 0, 1) := by decide +kernel
theorem d_MenuSearch_mealsIfAllFree_3 : decode prog_4_method_7_code 3 = .ok (.istore_n 3, 1) := by decide +kernel
theorem d_MenuSearch_mealsIfAllFree_4 : decode prog_4_method_7_code 4 = .ok (.iconst (-1), 1) := by decide +kernel
theorem d_MenuSearch_mealsIfAllFree_5 : decode prog_4_method_7_code 5 = .ok (.istore 4, 2) := by decide +kernel
theorem d_MenuSearch_mealsIfAllFree_7 : decode prog_4_method_7_code 7 = .ok (.iconst 0, 1) := by decide +kernel
theorem d_MenuSearch_mealsIfAllFree_8 : decode prog_4_method_7_code 8 = .ok (.istore 5, 2) := by decide +kernel
theorem d_MenuSearch_mealsIfAllFree_10 : decode prog_4_method_7_code 10 = .ok (.iload 5, 2) := by decide +kernel
theorem d_MenuSearch_mealsIfAllFree_12 : decode prog_4_method_7_code 12 = .ok (.iload_n 1, 1) := by decide +kernel
theorem d_MenuSearch_mealsIfAllFree_13 : decode prog_4_method_7_code 13 = .ok (.if_icmp .ge 51, 3) := by decide +kernel
theorem d_MenuSearch_mealsIfAllFree_16 : decode prog_4_method_7_code 16 = .ok (.aload_n 0, 1) := by decide +kernel
theorem d_MenuSearch_mealsIfAllFree_17 : decode prog_4_method_7_code 17 = .ok (.getfield 18, 3) := by decide +kernel
theorem d_MenuSearch_mealsIfAllFree_20 : decode prog_4_method_7_code 20 = .ok (.iload 5, 2) := by decide +kernel
theorem d_MenuSearch_mealsIfAllFree_22 : decode prog_4_method_7_code 22 = .ok (.invokestatic 75, 3) := by decide +kernel
theorem d_MenuSearch_mealsIfAllFree_25 : decode prog_4_method_7_code 25 = .ok (.istore 6, 2) := by decide +kernel
theorem d_MenuSearch_mealsIfAllFree_27 : decode prog_4_method_7_code 27 = .ok (.iload 6, 2) := by decide +kernel
theorem d_MenuSearch_mealsIfAllFree_29 : decode prog_4_method_7_code 29 = .ok (.ifCond .le 15, 3) := by decide +kernel
theorem d_MenuSearch_mealsIfAllFree_32 : decode prog_4_method_7_code 32 = .ok (.iinc 2 1, 3) := by decide +kernel
theorem d_MenuSearch_mealsIfAllFree_35 : decode prog_4_method_7_code 35 = .ok (.iload 5, 2) := by decide +kernel
theorem d_MenuSearch_mealsIfAllFree_37 : decode prog_4_method_7_code 37 = .ok (.istore_n 3, 1) := by decide +kernel
theorem d_MenuSearch_mealsIfAllFree_38 : decode prog_4_method_7_code 38 = .ok (.iload 6, 2) := by decide +kernel
theorem d_MenuSearch_mealsIfAllFree_40 : decode prog_4_method_7_code 40 = .ok (.iconst 1, 1) := by decide +kernel
theorem d_MenuSearch_mealsIfAllFree_41 : decode prog_4_method_7_code 41 = .ok (.isub, 1) := by decide +kernel
theorem d_MenuSearch_mealsIfAllFree_42 : decode prog_4_method_7_code 42 = .ok (.istore 4, 2) := by decide +kernel
theorem d_MenuSearch_mealsIfAllFree_44 : decode prog_4_method_7_code 44 = .ok (.aload_n 0, 1) := by decide +kernel
theorem d_MenuSearch_mealsIfAllFree_45 : decode prog_4_method_7_code 45 = .ok (.iload 5, 2) := by decide +kernel
theorem d_MenuSearch_mealsIfAllFree_47 : decode prog_4_method_7_code 47 = .ok (.iload_n 3, 1) := by decide +kernel
theorem d_MenuSearch_mealsIfAllFree_48 : decode prog_4_method_7_code 48 = .ok (.iload 4, 2) := by decide +kernel
theorem d_MenuSearch_mealsIfAllFree_50 : decode prog_4_method_7_code 50 = .ok (.invokevirtual 79, 3) := by decide +kernel
theorem d_MenuSearch_mealsIfAllFree_53 : decode prog_4_method_7_code 53 = .ok (.ifCond .ne 5, 3) := by decide +kernel
theorem d_MenuSearch_mealsIfAllFree_56 : decode prog_4_method_7_code 56 = .ok (.iconst (-1), 1) := by decide +kernel
theorem d_MenuSearch_mealsIfAllFree_57 : decode prog_4_method_7_code 57 = .ok (.ireturn, 1) := by decide +kernel
theorem d_MenuSearch_mealsIfAllFree_58 : decode prog_4_method_7_code 58 = .ok (.iinc 5 1, 3) := by decide +kernel
theorem d_MenuSearch_mealsIfAllFree_61 : decode prog_4_method_7_code 61 = .ok (.goto (-51), 3) := by decide +kernel
theorem d_MenuSearch_mealsIfAllFree_64 : decode prog_4_method_7_code 64 = .ok (.iload_n 2, 1) := by decide +kernel
theorem d_MenuSearch_mealsIfAllFree_65 : decode prog_4_method_7_code 65 = .ok (.ireturn, 1) := by decide +kernel
theorem d_MenuSearch_step_0 : decode prog_4_method_8_code 0 = .ok (.iload_n 1, 1) := by decide +kernel
theorem d_MenuSearch_step_1 : decode prog_4_method_8_code 1 = .ok (.iconst 1, 1) := by decide +kernel
theorem d_MenuSearch_step_2 : decode prog_4_method_8_code 2 = .ok (.isub, 1) := by decide +kernel
theorem d_MenuSearch_step_3 : decode prog_4_method_8_code 3 = .ok (.istore_n 3, 1) := by decide +kernel
theorem d_MenuSearch_step_4 : decode prog_4_method_8_code 4 = .ok (.iload_n 3, 1) := by decide +kernel
theorem d_MenuSearch_step_5 : decode prog_4_method_8_code 5 = .ok (.ifCond .lt 48, 3) := by decide +kernel
theorem d_MenuSearch_step_8 : decode prog_4_method_8_code 8 = .ok (.aload_n 0, 1) := by decide +kernel
theorem d_MenuSearch_step_9 : decode prog_4_method_8_code 9 = .ok (.getfield 18, 3) := by decide +kernel
theorem d_MenuSearch_step_12 : decode prog_4_method_8_code 12 = .ok (.iload_n 3, 1) := by decide +kernel
theorem d_MenuSearch_step_13 : decode prog_4_method_8_code 13 = .ok (.invokestatic 75, 3) := by decide +kernel
theorem d_MenuSearch_step_16 : decode prog_4_method_8_code 16 = .ok (.istore 4, 2) := by decide +kernel
theorem d_MenuSearch_step_18 : decode prog_4_method_8_code 18 = .ok (.iload 4, 2) := by decide +kernel
theorem d_MenuSearch_step_20 : decode prog_4_method_8_code 20 = .ok (.iload_n 2, 1) := by decide +kernel
theorem d_MenuSearch_step_21 : decode prog_4_method_8_code 21 = .ok (.if_icmp .ge 17, 3) := by decide +kernel
theorem d_MenuSearch_step_24 : decode prog_4_method_8_code 24 = .ok (.aload_n 0, 1) := by decide +kernel
theorem d_MenuSearch_step_25 : decode prog_4_method_8_code 25 = .ok (.getfield 18, 3) := by decide +kernel
theorem d_MenuSearch_step_28 : decode prog_4_method_8_code 28 = .ok (.iload_n 3, 1) := by decide +kernel
theorem d_MenuSearch_step_29 : decode prog_4_method_8_code 29 = .ok (.iload 4, 2) := by decide +kernel
theorem d_MenuSearch_step_31 : decode prog_4_method_8_code 31 = .ok (.iconst 1, 1) := by decide +kernel
theorem d_MenuSearch_step_32 : decode prog_4_method_8_code 32 = .ok (.iadd, 1) := by decide +kernel
theorem d_MenuSearch_step_33 : decode prog_4_method_8_code 33 = .ok (.invokestatic 83, 3) := by decide +kernel
theorem d_MenuSearch_step_36 : decode prog_4_method_8_code 36 = .ok (.iconst 1, 1) := by decide +kernel
theorem d_MenuSearch_step_37 : decode prog_4_method_8_code 37 = .ok (.ireturn, 1) := by decide +kernel
theorem d_MenuSearch_step_38 : decode prog_4_method_8_code 38 = .ok (.aload_n 0, 1) := by decide +kernel
theorem d_MenuSearch_step_39 : decode prog_4_method_8_code 39 = .ok (.getfield 18, 3) := by decide +kernel
theorem d_MenuSearch_step_42 : decode prog_4_method_8_code 42 = .ok (.iload_n 3, 1) := by decide +kernel
theorem d_MenuSearch_step_43 : decode prog_4_method_8_code 43 = .ok (.iconst 0, 1) := by decide +kernel
theorem d_MenuSearch_step_44 : decode prog_4_method_8_code 44 = .ok (.invokestatic 83, 3) := by decide +kernel
theorem d_MenuSearch_step_47 : decode prog_4_method_8_code 47 = .ok (.iinc 3 (-1), 3) := by decide +kernel
theorem d_MenuSearch_step_50 : decode prog_4_method_8_code 50 = .ok (.goto (-46), 3) := by decide +kernel
theorem d_MenuSearch_step_53 : decode prog_4_method_8_code 53 = .ok (.iconst 0, 1) := by decide +kernel
theorem d_MenuSearch_step_54 : decode prog_4_method_8_code 54 = .ok (.ireturn, 1) := by decide +kernel
theorem d_Past_init_0 : decode prog_5_method_1_code 0 = .ok (.aload_n 0, 1) := by decide +kernel
theorem d_Past_init_1 : decode prog_5_method_1_code 1 = .ok (.invokespecial 3, 3) := by decide +kernel
theorem d_Past_init_4 : decode prog_5_method_1_code 4 = .ok (.aload_n 0, 1) := by decide +kernel
theorem d_Past_init_5 : decode prog_5_method_1_code 5 = .ok (.bipush 40, 2) := by decide +kernel
theorem d_Past_init_7 : decode prog_5_method_1_code 7 = .ok (.anewarray 9, 3) := by decide +kernel
theorem d_Past_init_10 : decode prog_5_method_1_code 10 = .ok (.putfield 11, 3) := by decide +kernel
theorem d_Past_init_13 : decode prog_5_method_1_code 13 = .ok (.iconst 0, 1) := by decide +kernel
theorem d_Past_init_14 : decode prog_5_method_1_code 14 = .ok (.istore_n 1, 1) := by decide +kernel
theorem d_Past_init_15 : decode prog_5_method_1_code 15 = .ok (.iload_n 1, 1) := by decide +kernel
theorem d_Past_init_16 : decode prog_5_method_1_code 16 = .ok (.aload_n 0, 1) := by decide +kernel
theorem d_Past_init_17 : decode prog_5_method_1_code 17 = .ok (.getfield 11, 3) := by decide +kernel
theorem d_Past_init_20 : decode prog_5_method_1_code 20 = .ok (.arraylength, 1) := by decide +kernel
theorem d_Past_init_21 : decode prog_5_method_1_code 21 = .ok (.if_icmp .ge 22, 3) := by decide +kernel
theorem d_Past_init_24 : decode prog_5_method_1_code 24 = .ok (.aload_n 0, 1) := by decide +kernel
theorem d_Past_init_25 : decode prog_5_method_1_code 25 = .ok (.getfield 11, 3) := by decide +kernel
theorem d_Past_init_28 : decode prog_5_method_1_code 28 = .ok (.iload_n 1, 1) := by decide +kernel
theorem d_Past_init_29 : decode prog_5_method_1_code 29 = .ok (.new 9, 3) := by decide +kernel
theorem d_Past_init_32 : decode prog_5_method_1_code 32 = .ok (.dup, 1) := by decide +kernel
theorem d_Past_init_33 : decode prog_5_method_1_code 33 = .ok (.invokespecial 17, 3) := by decide +kernel
theorem d_Past_init_36 : decode prog_5_method_1_code 36 = .ok (.aastore, 1) := by decide +kernel
theorem d_Past_init_37 : decode prog_5_method_1_code 37 = .ok (.iinc 1 1, 3) := by decide +kernel
theorem d_Past_init_40 : decode prog_5_method_1_code 40 = .ok (.goto (-25), 3) := by decide +kernel
theorem d_Past_init_43 : decode prog_5_method_1_code 43 = .ok (.return_, 1) := by decide +kernel
theorem d_Past_clear_0 : decode prog_5_method_2_code 0 = .ok (.aload_n 0, 1) := by decide +kernel
theorem d_Past_clear_1 : decode prog_5_method_2_code 1 = .ok (.iconst 0, 1) := by decide +kernel
theorem d_Past_clear_2 : decode prog_5_method_2_code 2 = .ok (.putfield 18, 3) := by decide +kernel
theorem d_Past_clear_5 : decode prog_5_method_2_code 5 = .ok (.aload_n 0, 1) := by decide +kernel
theorem d_Past_clear_6 : decode prog_5_method_2_code 6 = .ok (.iconst 0, 1) := by decide +kernel
theorem d_Past_clear_7 : decode prog_5_method_2_code 7 = .ok (.putfield 22, 3) := by decide +kernel
theorem d_Past_clear_10 : decode prog_5_method_2_code 10 = .ok (.return_, 1) := by decide +kernel
theorem d_Past_keep_0 : decode prog_5_method_3_code 0 = .ok (.aload_n 0, 1) := by decide +kernel
theorem d_Past_keep_1 : decode prog_5_method_3_code 1 = .ok (.getfield 18, 3) := by decide +kernel
theorem d_Past_keep_4 : decode prog_5_method_3_code 4 = .ok (.ifCond .lt 27, 3) := by decide +kernel
theorem d_Past_keep_7 : decode prog_5_method_3_code 7 = .ok (.aload_n 0, 1) := by decide +kernel
theorem d_Past_keep_8 : decode prog_5_method_3_code 8 = .ok (.getfield 18, 3) := by decide +kernel
theorem d_Past_keep_11 : decode prog_5_method_3_code 11 = .ok (.aload_n 0, 1) := by decide +kernel
theorem d_Past_keep_12 : decode prog_5_method_3_code 12 = .ok (.getfield 11, 3) := by decide +kernel
theorem d_Past_keep_15 : decode prog_5_method_3_code 15 = .ok (.arraylength, 1) := by decide +kernel
theorem d_Past_keep_16 : decode prog_5_method_3_code 16 = .ok (.if_icmp .ge 15, 3) := by decide +kernel
theorem d_Past_keep_19 : decode prog_5_method_3_code 19 = .ok (.aload_n 0, 1) := by decide +kernel
theorem d_Past_keep_20 : decode prog_5_method_3_code 20 = .ok (.getfield 11, 3) := by decide +kernel
theorem d_Past_keep_23 : decode prog_5_method_3_code 23 = .ok (.aload_n 0, 1) := by decide +kernel
theorem d_Past_keep_24 : decode prog_5_method_3_code 24 = .ok (.getfield 18, 3) := by decide +kernel
theorem d_Past_keep_27 : decode prog_5_method_3_code 27 = .ok (.aaload, 1) := by decide +kernel
theorem d_Past_keep_28 : decode prog_5_method_3_code 28 = .ok (.ifnonnull 4, 3) := by decide +kernel
theorem d_Past_keep_31 : decode prog_5_method_3_code 31 = .ok (.return_, 1) := by decide +kernel
theorem d_Past_keep_32 : decode prog_5_method_3_code 32 = .ok (.aload_n 0, 1) := by decide +kernel
theorem d_Past_keep_33 : decode prog_5_method_3_code 33 = .ok (.getfield 11, 3) := by decide +kernel
theorem d_Past_keep_36 : decode prog_5_method_3_code 36 = .ok (.aload_n 0, 1) := by decide +kernel
theorem d_Past_keep_37 : decode prog_5_method_3_code 37 = .ok (.getfield 18, 3) := by decide +kernel
theorem d_Past_keep_40 : decode prog_5_method_3_code 40 = .ok (.aaload, 1) := by decide +kernel
theorem d_Past_keep_41 : decode prog_5_method_3_code 41 = .ok (.aload_n 1, 1) := by decide +kernel
theorem d_Past_keep_42 : decode prog_5_method_3_code 42 = .ok (.invokevirtual 25, 3) := by decide +kernel
theorem d_Past_keep_45 : decode prog_5_method_3_code 45 = .ok (.aload_n 0, 1) := by decide +kernel
theorem d_Past_keep_46 : decode prog_5_method_3_code 46 = .ok (.aload_n 0, 1) := by decide +kernel
theorem d_Past_keep_47 : decode prog_5_method_3_code 47 = .ok (.getfield 18, 3) := by decide +kernel
theorem d_Past_keep_50 : decode prog_5_method_3_code 50 = .ok (.iconst 1, 1) := by decide +kernel
theorem d_Past_keep_51 : decode prog_5_method_3_code 51 = .ok (.iadd, 1) := by decide +kernel
theorem d_Past_keep_52 : decode prog_5_method_3_code 52 = .ok (.bipush 40, 2) := by decide +kernel
theorem d_Past_keep_54 : decode prog_5_method_3_code 54 = .ok (.if_icmp .ge 12, 3) := by decide +kernel
theorem d_Past_keep_57 : decode prog_5_method_3_code 57 = .ok (.aload_n 0, 1) := by decide +kernel
theorem d_Past_keep_58 : decode prog_5_method_3_code 58 = .ok (.getfield 18, 3) := by decide +kernel
theorem d_Past_keep_61 : decode prog_5_method_3_code 61 = .ok (.iconst 1, 1) := by decide +kernel
theorem d_Past_keep_62 : decode prog_5_method_3_code 62 = .ok (.iadd, 1) := by decide +kernel
theorem d_Past_keep_63 : decode prog_5_method_3_code 63 = .ok (.goto 4, 3) := by decide +kernel
theorem d_Past_keep_66 : decode prog_5_method_3_code 66 = .ok (.iconst 0, 1) := by decide +kernel
theorem d_Past_keep_67 : decode prog_5_method_3_code 67 = .ok (.putfield 18, 3) := by decide +kernel
theorem d_Past_keep_70 : decode prog_5_method_3_code 70 = .ok (.aload_n 0, 1) := by decide +kernel
theorem d_Past_keep_71 : decode prog_5_method_3_code 71 = .ok (.bipush 40, 2) := by decide +kernel
theorem d_Past_keep_73 : decode prog_5_method_3_code 73 = .ok (.aload_n 0, 1) := by decide +kernel
theorem d_Past_keep_74 : decode prog_5_method_3_code 74 = .ok (.getfield 22, 3) := by decide +kernel
theorem d_Past_keep_77 : decode prog_5_method_3_code 77 = .ok (.iconst 1, 1) := by decide +kernel
theorem d_Past_keep_78 : decode prog_5_method_3_code 78 = .ok (.iadd, 1) := by decide +kernel
theorem d_Past_keep_79 : decode prog_5_method_3_code 79 = .ok (.invokestatic 29, 3) := by decide +kernel
theorem d_Past_keep_82 : decode prog_5_method_3_code 82 = .ok (.putfield 22, 3) := by decide +kernel
theorem d_Past_keep_85 : decode prog_5_method_3_code 85 = .ok (.return_, 1) := by decide +kernel
theorem d_Past_takeBack_0 : decode prog_5_method_4_code 0 = .ok (.aload_n 0, 1) := by decide +kernel
theorem d_Past_takeBack_1 : decode prog_5_method_4_code 1 = .ok (.getfield 18, 3) := by decide +kernel
theorem d_Past_takeBack_4 : decode prog_5_method_4_code 4 = .ok (.ifCond .le 12, 3) := by decide +kernel
theorem d_Past_takeBack_7 : decode prog_5_method_4_code 7 = .ok (.aload_n 0, 1) := by decide +kernel
theorem d_Past_takeBack_8 : decode prog_5_method_4_code 8 = .ok (.getfield 18, 3) := by decide +kernel
theorem d_Past_takeBack_11 : decode prog_5_method_4_code 11 = .ok (.iconst 1, 1) := by decide +kernel
theorem d_Past_takeBack_12 : decode prog_5_method_4_code 12 = .ok (.isub, 1) := by decide +kernel
theorem d_Past_takeBack_13 : decode prog_5_method_4_code 13 = .ok (.goto 5, 3) := by decide +kernel
theorem d_Past_takeBack_16 : decode prog_5_method_4_code 16 = .ok (.bipush 39, 2) := by decide +kernel
theorem d_Past_takeBack_18 : decode prog_5_method_4_code 18 = .ok (.istore_n 2, 1) := by decide +kernel
theorem d_Past_takeBack_19 : decode prog_5_method_4_code 19 = .ok (.aload_n 0, 1) := by decide +kernel
theorem d_Past_takeBack_20 : decode prog_5_method_4_code 20 = .ok (.getfield 22, 3) := by decide +kernel
theorem d_Past_takeBack_23 : decode prog_5_method_4_code 23 = .ok (.ifCond .eq 21, 3) := by decide +kernel
theorem d_Past_takeBack_26 : decode prog_5_method_4_code 26 = .ok (.iload_n 2, 1) := by decide +kernel
theorem d_Past_takeBack_27 : decode prog_5_method_4_code 27 = .ok (.aload_n 0, 1) := by decide +kernel
theorem d_Past_takeBack_28 : decode prog_5_method_4_code 28 = .ok (.getfield 11, 3) := by decide +kernel
theorem d_Past_takeBack_31 : decode prog_5_method_4_code 31 = .ok (.arraylength, 1) := by decide +kernel
theorem d_Past_takeBack_32 : decode prog_5_method_4_code 32 = .ok (.if_icmp .ge 12, 3) := by decide +kernel
theorem d_Past_takeBack_35 : decode prog_5_method_4_code 35 = .ok (.aload_n 0, 1) := by decide +kernel
theorem d_Past_takeBack_36 : decode prog_5_method_4_code 36 = .ok (.getfield 11, 3) := by decide +kernel
theorem d_Past_takeBack_39 : decode prog_5_method_4_code 39 = .ok (.iload_n 2, 1) := by decide +kernel
theorem d_Past_takeBack_40 : decode prog_5_method_4_code 40 = .ok (.aaload, 1) := by decide +kernel
theorem d_Past_takeBack_41 : decode prog_5_method_4_code 41 = .ok (.ifnonnull 5, 3) := by decide +kernel
theorem d_Past_takeBack_44 : decode prog_5_method_4_code 44 = .ok (.iconst 0, 1) := by decide +kernel
theorem d_Past_takeBack_45 : decode prog_5_method_4_code 45 = .ok (.ireturn, 1) := by decide +kernel
theorem d_Past_takeBack_46 : decode prog_5_method_4_code 46 = .ok (.aload_n 1, 1) := by decide +kernel
theorem d_Past_takeBack_47 : decode prog_5_method_4_code 47 = .ok (.aload_n 0, 1) := by decide +kernel
theorem d_Past_takeBack_48 : decode prog_5_method_4_code 48 = .ok (.getfield 11, 3) := by decide +kernel
theorem d_Past_takeBack_51 : decode prog_5_method_4_code 51 = .ok (.iload_n 2, 1) := by decide +kernel
theorem d_Past_takeBack_52 : decode prog_5_method_4_code 52 = .ok (.aaload, 1) := by decide +kernel
theorem d_Past_takeBack_53 : decode prog_5_method_4_code 53 = .ok (.invokevirtual 25, 3) := by decide +kernel
theorem d_Past_takeBack_56 : decode prog_5_method_4_code 56 = .ok (.aload_n 0, 1) := by decide +kernel
theorem d_Past_takeBack_57 : decode prog_5_method_4_code 57 = .ok (.iload_n 2, 1) := by decide +kernel
theorem d_Past_takeBack_58 : decode prog_5_method_4_code 58 = .ok (.putfield 18, 3) := by decide +kernel
theorem d_Past_takeBack_61 : decode prog_5_method_4_code 61 = .ok (.aload_n 0, 1) := by decide +kernel
theorem d_Past_takeBack_62 : decode prog_5_method_4_code 62 = .ok (.dup, 1) := by decide +kernel
theorem d_Past_takeBack_63 : decode prog_5_method_4_code 63 = .ok (.getfield 22, 3) := by decide +kernel
theorem d_Past_takeBack_66 : decode prog_5_method_4_code 66 = .ok (.iconst 1, 1) := by decide +kernel
theorem d_Past_takeBack_67 : decode prog_5_method_4_code 67 = .ok (.isub, 1) := by decide +kernel
theorem d_Past_takeBack_68 : decode prog_5_method_4_code 68 = .ok (.putfield 22, 3) := by decide +kernel
theorem d_Past_takeBack_71 : decode prog_5_method_4_code 71 = .ok (.iconst 1, 1) := by decide +kernel
theorem d_Past_takeBack_72 : decode prog_5_method_4_code 72 = .ok (.ireturn, 1) := by decide +kernel
theorem d_PotSearch_init_0 : decode prog_6_method_1_code 0 = .ok (.aload_n 0, 1) := by decide +kernel
theorem d_PotSearch_init_1 : decode prog_6_method_1_code 1 = .ok (.invokespecial 3, 3) := by decide +kernel
theorem d_PotSearch_init_4 : decode prog_6_method_1_code 4 = .ok (.aload_n 0, 1) := by decide +kernel
theorem d_PotSearch_init_5 : decode prog_6_method_1_code 5 = .ok (.iconst 3, 1) := by decide +kernel
theorem d_PotSearch_init_6 : decode prog_6_method_1_code 6 = .ok (.newarray .int, 2) := by decide +kernel
theorem d_PotSearch_init_8 : decode prog_6_method_1_code 8 = .ok (.putfield 9, 3) := by decide +kernel
theorem d_PotSearch_init_11 : decode prog_6_method_1_code 11 = .ok (.aload_n 0, 1) := by decide +kernel
theorem d_PotSearch_init_12 : decode prog_6_method_1_code 12 = .ok (.bipush 6, 2) := by decide +kernel
theorem d_PotSearch_init_14 : decode prog_6_method_1_code 14 = .ok (.newarray .int, 2) := by decide +kernel
theorem d_PotSearch_init_16 : decode prog_6_method_1_code 16 = .ok (.putfield 15, 3) := by decide +kernel
theorem d_PotSearch_init_19 : decode prog_6_method_1_code 19 = .ok (.aload_n 0, 1) := by decide +kernel
theorem d_PotSearch_init_20 : decode prog_6_method_1_code 20 = .ok (.iconst 3, 1) := by decide +kernel
theorem d_PotSearch_init_21 : decode prog_6_method_1_code 21 = .ok (.newarray .int, 2) := by decide +kernel
theorem d_PotSearch_init_23 : decode prog_6_method_1_code 23 = .ok (.putfield 18, 3) := by decide +kernel
theorem d_PotSearch_init_26 : decode prog_6_method_1_code 26 = .ok (.aload_n 0, 1) := by decide +kernel
theorem d_PotSearch_init_27 : decode prog_6_method_1_code 27 = .ok (.bipush 6, 2) := by decide +kernel
theorem d_PotSearch_init_29 : decode prog_6_method_1_code 29 = .ok (.newarray .int, 2) := by decide +kernel
theorem d_PotSearch_init_31 : decode prog_6_method_1_code 31 = .ok (.putfield 21, 3) := by decide +kernel
theorem d_PotSearch_init_34 : decode prog_6_method_1_code 34 = .ok (.return_, 1) := by decide +kernel
theorem d_PotSearch_find_0 : decode prog_6_method_2_code 0 = .ok (.aload_n 0, 1) := by decide +kernel
theorem d_PotSearch_find_1 : decode prog_6_method_2_code 1 = .ok (.getfield 9, 3) := by decide +kernel
theorem d_PotSearch_find_4 : decode prog_6_method_2_code 4 = .ok (.iconst 0, 1) := by decide +kernel
theorem d_PotSearch_find_5 : decode prog_6_method_2_code 5 = .ok (.iload_n 3, 1) := by decide +kernel
theorem d_PotSearch_find_6 : decode prog_6_method_2_code 6 = .ok (.invokestatic 24, 3) := by decide +kernel
theorem d_PotSearch_find_9 : decode prog_6_method_2_code 9 = .ok (.aload_n 0, 1) := by decide +kernel
theorem d_PotSearch_find_10 : decode prog_6_method_2_code 10 = .ok (.getfield 9, 3) := by decide +kernel
theorem d_PotSearch_find_13 : decode prog_6_method_2_code 13 = .ok (.iconst 1, 1) := by decide +kernel
theorem d_PotSearch_find_14 : decode prog_6_method_2_code 14 = .ok (.iload 4, 2) := by decide +kernel
theorem d_PotSearch_find_16 : decode prog_6_method_2_code 16 = .ok (.invokestatic 24, 3) := by decide +kernel
theorem d_PotSearch_find_19 : decode prog_6_method_2_code 19 = .ok (.aload_n 0, 1) := by decide +kernel
theorem d_PotSearch_find_20 : decode prog_6_method_2_code 20 = .ok (.getfield 9, 3) := by decide +kernel
theorem d_PotSearch_find_23 : decode prog_6_method_2_code 23 = .ok (.iconst 2, 1) := by decide +kernel
theorem d_PotSearch_find_24 : decode prog_6_method_2_code 24 = .ok (.iload 5, 2) := by decide +kernel
theorem d_PotSearch_find_26 : decode prog_6_method_2_code 26 = .ok (.invokestatic 24, 3) := by decide +kernel
theorem d_PotSearch_find_29 : decode prog_6_method_2_code 29 = .ok (.aload_n 0, 1) := by decide +kernel
theorem d_PotSearch_find_30 : decode prog_6_method_2_code 30 = .ok (.iconst 0, 1) := by decide +kernel
theorem d_PotSearch_find_31 : decode prog_6_method_2_code 31 = .ok (.putfield 28, 3) := by decide +kernel
theorem d_PotSearch_find_34 : decode prog_6_method_2_code 34 = .ok (.aload_n 0, 1) := by decide +kernel
theorem d_PotSearch_find_35 : decode prog_6_method_2_code 35 = .ok (.aload_n 1, 1) := by decide +kernel
theorem d_PotSearch_find_36 : decode prog_6_method_2_code 36 = .ok (.getfield 32, 3) := by decide +kernel
theorem d_PotSearch_find_39 : decode prog_6_method_2_code 39 = .ok (.iconst 1, 1) := by decide +kernel
theorem d_PotSearch_find_40 : decode prog_6_method_2_code 40 = .ok (.invokevirtual 38, 3) := by decide +kernel
theorem d_PotSearch_find_43 : decode prog_6_method_2_code 43 = .ok (.ifCond .eq 8, 3) := by decide +kernel
theorem d_PotSearch_find_46 : decode prog_6_method_2_code 46 = .ok (.bipush 10, 2) := by decide +kernel
theorem d_PotSearch_find_48 : decode prog_6_method_2_code 48 = .ok (.goto 4, 3) := by decide +kernel
theorem d_PotSearch_find_51 : decode prog_6_method_2_code 51 = .ok (.iconst 1, 1) := by decide +kernel
theorem d_PotSearch_find_52 : decode prog_6_method_2_code 52 = .ok (.putfield 44, 3) := by decide +kernel
theorem d_PotSearch_find_55 : decode prog_6_method_2_code 55 = .ok (.aload_n 0, 1) := by decide +kernel
theorem d_PotSearch_find_56 : decode prog_6_method_2_code 56 = .ok (.aload_n 2, 1) := by decide +kernel
theorem d_PotSearch_find_57 : decode prog_6_method_2_code 57 = .ok (.iconst 0, 1) := by decide +kernel
theorem d_PotSearch_find_58 : decode prog_6_method_2_code 58 = .ok (.bipush 6, 2) := by decide +kernel
theorem d_PotSearch_find_60 : decode prog_6_method_2_code 60 = .ok (.invokevirtual 48, 3) := by decide +kernel
theorem d_PotSearch_find_63 : decode prog_6_method_2_code 63 = .ok (.iconst 0, 1) := by decide +kernel
theorem d_PotSearch_find_64 : decode prog_6_method_2_code 64 = .ok (.istore 6, 2) := by decide +kernel
theorem d_PotSearch_find_66 : decode prog_6_method_2_code 66 = .ok (.iload 6, 2) := by decide +kernel
theorem d_PotSearch_find_68 : decode prog_6_method_2_code 68 = .ok (.sipush 924, 3) := by decide +kernel
theorem d_PotSearch_find_71 : decode prog_6_method_2_code 71 = .ok (.if_icmp .ge 38, 3) := by decide +kernel
theorem d_PotSearch_find_74 : decode prog_6_method_2_code 74 = .ok (.aload_n 0, 1) := by decide +kernel
theorem d_PotSearch_find_75 : decode prog_6_method_2_code 75 = .ok (.aload_n 1, 1) := by decide +kernel
theorem d_PotSearch_find_76 : decode prog_6_method_2_code 76 = .ok (.invokevirtual 52, 3) := by decide +kernel
theorem d_PotSearch_find_79 : decode prog_6_method_2_code 79 = .ok (.aload_n 0, 1) := by decide +kernel
theorem d_PotSearch_find_80 : decode prog_6_method_2_code 80 = .ok (.getfield 56, 3) := by decide +kernel
theorem d_PotSearch_find_83 : decode prog_6_method_2_code 83 = .ok (.ifCond .ne 6, 3) := by decide +kernel
theorem d_PotSearch_find_86 : decode prog_6_method_2_code 86 = .ok (.goto 23, 3) := by decide +kernel
theorem d_PotSearch_find_89 : decode prog_6_method_2_code 89 = .ok (.aload_n 0, 1) := by decide +kernel
theorem d_PotSearch_find_90 : decode prog_6_method_2_code 90 = .ok (.aload_n 1, 1) := by decide +kernel
theorem d_PotSearch_find_91 : decode prog_6_method_2_code 91 = .ok (.aload_n 2, 1) := by decide +kernel
theorem d_PotSearch_find_92 : decode prog_6_method_2_code 92 = .ok (.getfield 59, 3) := by decide +kernel
theorem d_PotSearch_find_95 : decode prog_6_method_2_code 95 = .ok (.invokevirtual 64, 3) := by decide +kernel
theorem d_PotSearch_find_98 : decode prog_6_method_2_code 98 = .ok (.aload_n 0, 1) := by decide +kernel
theorem d_PotSearch_find_99 : decode prog_6_method_2_code 99 = .ok (.aload_n 2, 1) := by decide +kernel
theorem d_PotSearch_find_100 : decode prog_6_method_2_code 100 = .ok (.invokevirtual 68, 3) := by decide +kernel
theorem d_PotSearch_find_103 : decode prog_6_method_2_code 103 = .ok (.iinc 6 1, 3) := by decide +kernel
theorem d_PotSearch_find_106 : decode prog_6_method_2_code 106 = .ok (.goto (-40), 3) := by decide +kernel
theorem d_PotSearch_find_109 : decode prog_6_method_2_code 109 = .ok (.aload_n 0, 1) := by decide +kernel
theorem d_PotSearch_find_110 : decode prog_6_method_2_code 110 = .ok (.getfield 28, 3) := by decide +kernel
theorem d_PotSearch_find_113 : decode prog_6_method_2_code 113 = .ok (.ireturn, 1) := by decide +kernel
theorem d_PotSearch_fillFrom_0 : decode prog_6_method_3_code 0 = .ok (.iload_n 3, 1) := by decide +kernel
theorem d_PotSearch_fillFrom_1 : decode prog_6_method_3_code 1 = .ok (.istore 4, 2) := by decide +kernel
theorem d_PotSearch_fillFrom_3 : decode prog_6_method_3_code 3 = .ok (.iload_n 2, 1) := by decide +kernel
theorem d_PotSearch_fillFrom_4 : decode prog_6_method_3_code 4 = .ok (.istore 5, 2) := by decide +kernel
theorem d_PotSearch_fillFrom_6 : decode prog_6_method_3_code 6 = .ok (.iload 5, 2) := by decide +kernel
theorem d_PotSearch_fillFrom_8 : decode prog_6_method_3_code 8 = .ok (.bipush 6, 2) := by decide +kernel
theorem d_PotSearch_fillFrom_10 : decode prog_6_method_3_code 10 = .ok (.if_icmp .ge 43, 3) := by decide +kernel
theorem d_PotSearch_fillFrom_13 : decode prog_6_method_3_code 13 = .ok (.iload 4, 2) := by decide +kernel
theorem d_PotSearch_fillFrom_15 : decode prog_6_method_3_code 15 = .ok (.aload_n 1, 1) := by decide +kernel
theorem d_PotSearch_fillFrom_16 : decode prog_6_method_3_code 16 = .ok (.getfield 72, 3) := by decide +kernel
theorem d_PotSearch_fillFrom_19 : decode prog_6_method_3_code 19 = .ok (.iload 5, 2) := by decide +kernel
theorem d_PotSearch_fillFrom_21 : decode prog_6_method_3_code 21 = .ok (.invokestatic 75, 3) := by decide +kernel
theorem d_PotSearch_fillFrom_24 : decode prog_6_method_3_code 24 = .ok (.invokestatic 79, 3) := by decide +kernel
theorem d_PotSearch_fillFrom_27 : decode prog_6_method_3_code 27 = .ok (.istore 6, 2) := by decide +kernel
theorem d_PotSearch_fillFrom_29 : decode prog_6_method_3_code 29 = .ok (.aload_n 0, 1) := by decide +kernel
theorem d_PotSearch_fillFrom_30 : decode prog_6_method_3_code 30 = .ok (.getfield 15, 3) := by decide +kernel
theorem d_PotSearch_fillFrom_33 : decode prog_6_method_3_code 33 = .ok (.iload 5, 2) := by decide +kernel
theorem d_PotSearch_fillFrom_35 : decode prog_6_method_3_code 35 = .ok (.iload 6, 2) := by decide +kernel
theorem d_PotSearch_fillFrom_37 : decode prog_6_method_3_code 37 = .ok (.invokestatic 24, 3) := by decide +kernel
theorem d_PotSearch_fillFrom_40 : decode prog_6_method_3_code 40 = .ok (.iload 4, 2) := by decide +kernel
theorem d_PotSearch_fillFrom_42 : decode prog_6_method_3_code 42 = .ok (.iload 6, 2) := by decide +kernel
theorem d_PotSearch_fillFrom_44 : decode prog_6_method_3_code 44 = .ok (.isub, 1) := by decide +kernel
theorem d_PotSearch_fillFrom_45 : decode prog_6_method_3_code 45 = .ok (.istore 4, 2) := by decide +kernel
theorem d_PotSearch_fillFrom_47 : decode prog_6_method_3_code 47 = .ok (.iinc 5 1, 3) := by decide +kernel
theorem d_PotSearch_fillFrom_50 : decode prog_6_method_3_code 50 = .ok (.goto (-44), 3) := by decide +kernel
theorem d_PotSearch_fillFrom_53 : decode prog_6_method_3_code 53 = .ok (.return_, 1) := by decide +kernel
theorem d_PotSearch_stepDown_0 : decode prog_6_method_4_code 0 = .ok (.iconst 5, 1) := by decide +kernel
theorem d_PotSearch_stepDown_1 : decode prog_6_method_4_code 1 = .ok (.istore_n 2, 1) := by decide +kernel
theorem d_PotSearch_stepDown_2 : decode prog_6_method_4_code 2 = .ok (.iload_n 2, 1) := by decide +kernel
theorem d_PotSearch_stepDown_3 : decode prog_6_method_4_code 3 = .ok (.ifCond .lt 51, 3) := by decide +kernel
theorem d_PotSearch_stepDown_6 : decode prog_6_method_4_code 6 = .ok (.aload_n 0, 1) := by decide +kernel
theorem d_PotSearch_stepDown_7 : decode prog_6_method_4_code 7 = .ok (.getfield 15, 3) := by decide +kernel
theorem d_PotSearch_stepDown_10 : decode prog_6_method_4_code 10 = .ok (.iload_n 2, 1) := by decide +kernel
theorem d_PotSearch_stepDown_11 : decode prog_6_method_4_code 11 = .ok (.invokestatic 75, 3) := by decide +kernel
theorem d_PotSearch_stepDown_14 : decode prog_6_method_4_code 14 = .ok (.istore_n 3, 1) := by decide +kernel
theorem d_PotSearch_stepDown_15 : decode prog_6_method_4_code 15 = .ok (.iload_n 3, 1) := by decide +kernel
theorem d_PotSearch_stepDown_16 : decode prog_6_method_4_code 16 = .ok (.ifCond .le 32, 3) := by decide +kernel
theorem d_PotSearch_stepDown_19 : decode prog_6_method_4_code 19 = .ok (.aload_n 0, 1) := by decide +kernel
theorem d_PotSearch_stepDown_20 : decode prog_6_method_4_code 20 = .ok (.getfield 15, 3) := by decide +kernel
theorem d_PotSearch_stepDown_23 : decode prog_6_method_4_code 23 = .ok (.iload_n 2, 1) := by decide +kernel
theorem d_PotSearch_stepDown_24 : decode prog_6_method_4_code 24 = .ok (.iload_n 3, 1) := by decide +kernel
theorem d_PotSearch_stepDown_25 : decode prog_6_method_4_code 25 = .ok (.iconst 1, 1) := by decide +kernel
theorem d_PotSearch_stepDown_26 : decode prog_6_method_4_code 26 = .ok (.isub, 1) := by decide +kernel
theorem d_PotSearch_stepDown_27 : decode prog_6_method_4_code 27 = .ok (.invokestatic 24, 3) := by decide +kernel
theorem d_PotSearch_stepDown_30 : decode prog_6_method_4_code 30 = .ok (.aload_n 0, 1) := by decide +kernel
theorem d_PotSearch_stepDown_31 : decode prog_6_method_4_code 31 = .ok (.aload_n 1, 1) := by decide +kernel
theorem d_PotSearch_stepDown_32 : decode prog_6_method_4_code 32 = .ok (.iload_n 2, 1) := by decide +kernel
theorem d_PotSearch_stepDown_33 : decode prog_6_method_4_code 33 = .ok (.iconst 1, 1) := by decide +kernel
theorem d_PotSearch_stepDown_34 : decode prog_6_method_4_code 34 = .ok (.iadd, 1) := by decide +kernel
theorem d_PotSearch_stepDown_35 : decode prog_6_method_4_code 35 = .ok (.bipush 6, 2) := by decide +kernel
theorem d_PotSearch_stepDown_37 : decode prog_6_method_4_code 37 = .ok (.aload_n 0, 1) := by decide +kernel
theorem d_PotSearch_stepDown_38 : decode prog_6_method_4_code 38 = .ok (.getfield 56, 3) := by decide +kernel
theorem d_PotSearch_stepDown_41 : decode prog_6_method_4_code 41 = .ok (.isub, 1) := by decide +kernel
theorem d_PotSearch_stepDown_42 : decode prog_6_method_4_code 42 = .ok (.iconst 1, 1) := by decide +kernel
theorem d_PotSearch_stepDown_43 : decode prog_6_method_4_code 43 = .ok (.iadd, 1) := by decide +kernel
theorem d_PotSearch_stepDown_44 : decode prog_6_method_4_code 44 = .ok (.invokevirtual 48, 3) := by decide +kernel
theorem d_PotSearch_stepDown_47 : decode prog_6_method_4_code 47 = .ok (.return_, 1) := by decide +kernel
theorem d_PotSearch_stepDown_48 : decode prog_6_method_4_code 48 = .ok (.iinc 2 (-1), 3) := by decide +kernel
theorem d_PotSearch_stepDown_51 : decode prog_6_method_4_code 51 = .ok (.goto (-49), 3) := by decide +kernel
theorem d_PotSearch_stepDown_54 : decode prog_6_method_4_code 54 = .ok (.return_, 1) := by decide +kernel
theorem d_PotSearch_weigh_0 : decode prog_6_method_5_code 0 = .ok (.aload_n 0, 1) := by decide +kernel
theorem d_PotSearch_weigh_1 : decode prog_6_method_5_code 1 = .ok (.getfield 18, 3) := by decide +kernel
theorem d_PotSearch_weigh_4 : decode prog_6_method_5_code 4 = .ok (.invokestatic 85, 3) := by decide +kernel
theorem d_PotSearch_weigh_7 : decode prog_6_method_5_code 7 = .ok (.aload_n 0, 1) := by decide +kernel
theorem d_PotSearch_weigh_8 : decode prog_6_method_5_code 8 = .ok (.iconst 0, 1) := by decide +kernel
theorem d_PotSearch_weigh_9 : decode prog_6_method_5_code 9 = .ok (.putfield 56, 3) := by decide +kernel
theorem d_PotSearch_weigh_12 : decode prog_6_method_5_code 12 = .ok (.aload_n 0, 1) := by decide +kernel
theorem d_PotSearch_weigh_13 : decode prog_6_method_5_code 13 = .ok (.iconst 0, 1) := by decide +kernel
theorem d_PotSearch_weigh_14 : decode prog_6_method_5_code 14 = .ok (.putfield 89, 3) := by decide +kernel
theorem d_PotSearch_weigh_17 : decode prog_6_method_5_code 17 = .ok (.iconst 0, 1) := by decide +kernel
theorem d_PotSearch_weigh_18 : decode prog_6_method_5_code 18 = .ok (.istore_n 2, 1) := by decide +kernel
theorem d_PotSearch_weigh_19 : decode prog_6_method_5_code 19 = .ok (.iload_n 2, 1) := by decide +kernel
theorem d_PotSearch_weigh_20 : decode prog_6_method_5_code 20 = .ok (.bipush 6, 2) := by decide +kernel
theorem d_PotSearch_weigh_22 : decode prog_6_method_5_code 22 = .ok (.if_icmp .ge 94, 3) := by decide +kernel
theorem d_PotSearch_weigh_25 : decode prog_6_method_5_code 25 = .ok (.aload_n 0, 1) := by decide +kernel
theorem d_PotSearch_weigh_26 : decode prog_6_method_5_code 26 = .ok (.getfield 15, 3) := by decide +kernel
theorem d_PotSearch_weigh_29 : decode prog_6_method_5_code 29 = .ok (.iload_n 2, 1) := by decide +kernel
theorem d_PotSearch_weigh_30 : decode prog_6_method_5_code 30 = .ok (.invokestatic 75, 3) := by decide +kernel
theorem d_PotSearch_weigh_33 : decode prog_6_method_5_code 33 = .ok (.istore_n 3, 1) := by decide +kernel
theorem d_PotSearch_weigh_34 : decode prog_6_method_5_code 34 = .ok (.iload_n 3, 1) := by decide +kernel
theorem d_PotSearch_weigh_35 : decode prog_6_method_5_code 35 = .ok (.ifCond .le 75, 3) := by decide +kernel
theorem d_PotSearch_weigh_38 : decode prog_6_method_5_code 38 = .ok (.aload_n 0, 1) := by decide +kernel
theorem d_PotSearch_weigh_39 : decode prog_6_method_5_code 39 = .ok (.dup, 1) := by decide +kernel
theorem d_PotSearch_weigh_40 : decode prog_6_method_5_code 40 = .ok (.getfield 56, 3) := by decide +kernel
theorem d_PotSearch_weigh_43 : decode prog_6_method_5_code 43 = .ok (.iload_n 3, 1) := by decide +kernel
theorem d_PotSearch_weigh_44 : decode prog_6_method_5_code 44 = .ok (.iadd, 1) := by decide +kernel
theorem d_PotSearch_weigh_45 : decode prog_6_method_5_code 45 = .ok (.putfield 56, 3) := by decide +kernel
theorem d_PotSearch_weigh_48 : decode prog_6_method_5_code 48 = .ok (.aload_n 0, 1) := by decide +kernel
theorem d_PotSearch_weigh_49 : decode prog_6_method_5_code 49 = .ok (.dup, 1) := by decide +kernel
theorem d_PotSearch_weigh_50 : decode prog_6_method_5_code 50 = .ok (.getfield 89, 3) := by decide +kernel
theorem d_PotSearch_weigh_53 : decode prog_6_method_5_code 53 = .ok (.iload_n 3, 1) := by decide +kernel
theorem d_PotSearch_weigh_54 : decode prog_6_method_5_code 54 = .ok (.aload_n 1, 1) := by decide +kernel
theorem d_PotSearch_weigh_55 : decode prog_6_method_5_code 55 = .ok (.getfield 92, 3) := by decide +kernel
theorem d_PotSearch_weigh_58 : decode prog_6_method_5_code 58 = .ok (.iload_n 2, 1) := by decide +kernel
theorem d_PotSearch_weigh_59 : decode prog_6_method_5_code 59 = .ok (.invokestatic 75, 3) := by decide +kernel
theorem d_PotSearch_weigh_62 : decode prog_6_method_5_code 62 = .ok (.imul, 1) := by decide +kernel
theorem d_PotSearch_weigh_63 : decode prog_6_method_5_code 63 = .ok (.iadd, 1) := by decide +kernel
theorem d_PotSearch_weigh_64 : decode prog_6_method_5_code 64 = .ok (.putfield 89, 3) := by decide +kernel
theorem d_PotSearch_weigh_67 : decode prog_6_method_5_code 67 = .ok (.iconst 0, 1) := by decide +kernel
theorem d_PotSearch_weigh_68 : decode prog_6_method_5_code 68 = .ok (.istore 4, 2) := by decide +kernel
theorem d_PotSearch_weigh_70 : decode prog_6_method_5_code 70 = .ok (.iload 4, 2) := by decide +kernel
theorem d_PotSearch_weigh_72 : decode prog_6_method_5_code 72 = .ok (.iconst 3, 1) := by decide +kernel
theorem d_PotSearch_weigh_73 : decode prog_6_method_5_code 73 = .ok (.if_icmp .ge 37, 3) := by decide +kernel
theorem d_PotSearch_weigh_76 : decode prog_6_method_5_code 76 = .ok (.aload_n 0, 1) := by decide +kernel
theorem d_PotSearch_weigh_77 : decode prog_6_method_5_code 77 = .ok (.getfield 18, 3) := by decide +kernel
theorem d_PotSearch_weigh_80 : decode prog_6_method_5_code 80 = .ok (.iload 4, 2) := by decide +kernel
theorem d_PotSearch_weigh_82 : decode prog_6_method_5_code 82 = .ok (.aload_n 0, 1) := by decide +kernel
theorem d_PotSearch_weigh_83 : decode prog_6_method_5_code 83 = .ok (.getfield 18, 3) := by decide +kernel
theorem d_PotSearch_weigh_86 : decode prog_6_method_5_code 86 = .ok (.iload 4, 2) := by decide +kernel
theorem d_PotSearch_weigh_88 : decode prog_6_method_5_code 88 = .ok (.invokestatic 75, 3) := by decide +kernel
theorem d_PotSearch_weigh_91 : decode prog_6_method_5_code 91 = .ok (.iload_n 3, 1) := by decide +kernel
theorem d_PotSearch_weigh_92 : decode prog_6_method_5_code 92 = .ok (.aload_n 1, 1) := by decide +kernel
theorem d_PotSearch_weigh_93 : decode prog_6_method_5_code 93 = .ok (.iload_n 2, 1) := by decide +kernel
theorem d_PotSearch_weigh_94 : decode prog_6_method_5_code 94 = .ok (.iload 4, 2) := by decide +kernel
theorem d_PotSearch_weigh_96 : decode prog_6_method_5_code 96 = .ok (.invokevirtual 94, 3) := by decide +kernel
theorem d_PotSearch_weigh_99 : decode prog_6_method_5_code 99 = .ok (.imul, 1) := by decide +kernel
theorem d_PotSearch_weigh_100 : decode prog_6_method_5_code 100 = .ok (.iadd, 1) := by decide +kernel
theorem d_PotSearch_weigh_101 : decode prog_6_method_5_code 101 = .ok (.invokestatic 24, 3) := by decide +kernel
theorem d_PotSearch_weigh_104 : decode prog_6_method_5_code 104 = .ok (.iinc 4 1, 3) := by decide +kernel
theorem d_PotSearch_weigh_107 : decode prog_6_method_5_code 107 = .ok (.goto (-37), 3) := by decide +kernel
theorem d_PotSearch_weigh_110 : decode prog_6_method_5_code 110 = .ok (.iinc 2 1, 3) := by decide +kernel
theorem d_PotSearch_weigh_113 : decode prog_6_method_5_code 113 = .ok (.goto (-94), 3) := by decide +kernel
theorem d_PotSearch_weigh_116 : decode prog_6_method_5_code 116 = .ok (.return_, 1) := by decide +kernel
theorem d_PotSearch_tryHeats_0 : decode prog_6_method_6_code 0 = .ok (.aload_n 0, 1) := by decide +kernel
theorem d_PotSearch_tryHeats_1 : decode prog_6_method_6_code 1 = .ok (.getfield 28, 3) := by decide +kernel
theorem d_PotSearch_tryHeats_4 : decode prog_6_method_6_code 4 = .ok (.ifCond .eq 37, 3) := by decide +kernel
theorem d_PotSearch_tryHeats_7 : decode prog_6_method_6_code 7 = .ok (.aload_n 0, 1) := by decide +kernel
theorem d_PotSearch_tryHeats_8 : decode prog_6_method_6_code 8 = .ok (.getfield 89, 3) := by decide +kernel
theorem d_PotSearch_tryHeats_11 : decode prog_6_method_6_code 11 = .ok (.aload_n 0, 1) := by decide +kernel
theorem d_PotSearch_tryHeats_12 : decode prog_6_method_6_code 12 = .ok (.getfield 97, 3) := by decide +kernel
theorem d_PotSearch_tryHeats_15 : decode prog_6_method_6_code 15 = .ok (.if_icmp .gt 25, 3) := by decide +kernel
theorem d_PotSearch_tryHeats_18 : decode prog_6_method_6_code 18 = .ok (.aload_n 0, 1) := by decide +kernel
theorem d_PotSearch_tryHeats_19 : decode prog_6_method_6_code 19 = .ok (.getfield 89, 3) := by decide +kernel
theorem d_PotSearch_tryHeats_22 : decode prog_6_method_6_code 22 = .ok (.aload_n 0, 1) := by decide +kernel
theorem d_PotSearch_tryHeats_23 : decode prog_6_method_6_code 23 = .ok (.getfield 97, 3) := by decide +kernel
theorem d_PotSearch_tryHeats_26 : decode prog_6_method_6_code 26 = .ok (.if_icmp .ne 15, 3) := by decide +kernel
theorem d_PotSearch_tryHeats_29 : decode prog_6_method_6_code 29 = .ok (.aload_n 0, 1) := by decide +kernel
theorem d_PotSearch_tryHeats_30 : decode prog_6_method_6_code 30 = .ok (.getfield 56, 3) := by decide +kernel
theorem d_PotSearch_tryHeats_33 : decode prog_6_method_6_code 33 = .ok (.aload_n 0, 1) := by decide +kernel
theorem d_PotSearch_tryHeats_34 : decode prog_6_method_6_code 34 = .ok (.getfield 100, 3) := by decide +kernel
theorem d_PotSearch_tryHeats_37 : decode prog_6_method_6_code 37 = .ok (.if_icmp .le 4, 3) := by decide +kernel
theorem d_PotSearch_tryHeats_40 : decode prog_6_method_6_code 40 = .ok (.return_, 1) := by decide +kernel
theorem d_PotSearch_tryHeats_41 : decode prog_6_method_6_code 41 = .ok (.aload_n 0, 1) := by decide +kernel
theorem d_PotSearch_tryHeats_42 : decode prog_6_method_6_code 42 = .ok (.getfield 28, 3) := by decide +kernel
theorem d_PotSearch_tryHeats_45 : decode prog_6_method_6_code 45 = .ok (.ifCond .eq 29, 3) := by decide +kernel
theorem d_PotSearch_tryHeats_48 : decode prog_6_method_6_code 48 = .ok (.aload_n 0, 1) := by decide +kernel
theorem d_PotSearch_tryHeats_49 : decode prog_6_method_6_code 49 = .ok (.getfield 89, 3) := by decide +kernel
theorem d_PotSearch_tryHeats_52 : decode prog_6_method_6_code 52 = .ok (.aload_n 0, 1) := by decide +kernel
theorem d_PotSearch_tryHeats_53 : decode prog_6_method_6_code 53 = .ok (.getfield 97, 3) := by decide +kernel
theorem d_PotSearch_tryHeats_56 : decode prog_6_method_6_code 56 = .ok (.if_icmp .ne 18, 3) := by decide +kernel
theorem d_PotSearch_tryHeats_59 : decode prog_6_method_6_code 59 = .ok (.aload_n 0, 1) := by decide +kernel
theorem d_PotSearch_tryHeats_60 : decode prog_6_method_6_code 60 = .ok (.getfield 56, 3) := by decide +kernel
theorem d_PotSearch_tryHeats_63 : decode prog_6_method_6_code 63 = .ok (.aload_n 0, 1) := by decide +kernel
theorem d_PotSearch_tryHeats_64 : decode prog_6_method_6_code 64 = .ok (.getfield 100, 3) := by decide +kernel
theorem d_PotSearch_tryHeats_67 : decode prog_6_method_6_code 67 = .ok (.if_icmp .ne 7, 3) := by decide +kernel
theorem d_PotSearch_tryHeats_70 : decode prog_6_method_6_code 70 = .ok (.iconst 1, 1) := by decide +kernel
theorem d_PotSearch_tryHeats_71 : decode prog_6_method_6_code 71 = .ok (.goto 4, 3) := by decide +kernel
theorem d_PotSearch_tryHeats_74 : decode prog_6_method_6_code 74 = .ok (.iconst 0, 1) := by decide +kernel
theorem d_PotSearch_tryHeats_75 : decode prog_6_method_6_code 75 = .ok (.istore_n 3, 1) := by decide +kernel
theorem d_PotSearch_tryHeats_76 : decode prog_6_method_6_code 76 = .ok (.iload_n 3, 1) := by decide +kernel
theorem d_PotSearch_tryHeats_77 : decode prog_6_method_6_code 77 = .ok (.ifCond .eq 17, 3) := by decide +kernel
theorem d_PotSearch_tryHeats_80 : decode prog_6_method_6_code 80 = .ok (.aload_n 0, 1) := by decide +kernel
theorem d_PotSearch_tryHeats_81 : decode prog_6_method_6_code 81 = .ok (.getfield 103, 3) := by decide +kernel
theorem d_PotSearch_tryHeats_84 : decode prog_6_method_6_code 84 = .ok (.aload_n 0, 1) := by decide +kernel
theorem d_PotSearch_tryHeats_85 : decode prog_6_method_6_code 85 = .ok (.getfield 44, 3) := by decide +kernel
theorem d_PotSearch_tryHeats_88 : decode prog_6_method_6_code 88 = .ok (.invokestatic 79, 3) := by decide +kernel
theorem d_PotSearch_tryHeats_91 : decode prog_6_method_6_code 91 = .ok (.goto 7, 3) := by decide +kernel
theorem d_PotSearch_tryHeats_94 : decode prog_6_method_6_code 94 = .ok (.aload_n 0, 1) := by decide +kernel
theorem d_PotSearch_tryHeats_95 : decode prog_6_method_6_code 95 = .ok (.getfield 44, 3) := by decide +kernel
theorem d_PotSearch_tryHeats_98 : decode prog_6_method_6_code 98 = .ok (.istore 4, 2) := by decide +kernel
theorem d_PotSearch_tryHeats_100 : decode prog_6_method_6_code 100 = .ok (.iconst 0, 1) := by decide +kernel
theorem d_PotSearch_tryHeats_101 : decode prog_6_method_6_code 101 = .ok (.istore 5, 2) := by decide +kernel
theorem d_PotSearch_tryHeats_103 : decode prog_6_method_6_code 103 = .ok (.iload 5, 2) := by decide +kernel
theorem d_PotSearch_tryHeats_105 : decode prog_6_method_6_code 105 = .ok (.iload 4, 2) := by decide +kernel
theorem d_PotSearch_tryHeats_107 : decode prog_6_method_6_code 107 = .ok (.if_icmp .ge 59, 3) := by decide +kernel
theorem d_PotSearch_tryHeats_110 : decode prog_6_method_6_code 110 = .ok (.aload_n 0, 1) := by decide +kernel
theorem d_PotSearch_tryHeats_111 : decode prog_6_method_6_code 111 = .ok (.aload_n 1, 1) := by decide +kernel
theorem d_PotSearch_tryHeats_112 : decode prog_6_method_6_code 112 = .ok (.iload 5, 2) := by decide +kernel
theorem d_PotSearch_tryHeats_114 : decode prog_6_method_6_code 114 = .ok (.iload_n 2, 1) := by decide +kernel
theorem d_PotSearch_tryHeats_115 : decode prog_6_method_6_code 115 = .ok (.invokevirtual 106, 3) := by decide +kernel
theorem d_PotSearch_tryHeats_118 : decode prog_6_method_6_code 118 = .ok (.ifCond .eq 42, 3) := by decide +kernel
theorem d_PotSearch_tryHeats_121 : decode prog_6_method_6_code 121 = .ok (.aload_n 0, 1) := by decide +kernel
theorem d_PotSearch_tryHeats_122 : decode prog_6_method_6_code 122 = .ok (.iconst 1, 1) := by decide +kernel
theorem d_PotSearch_tryHeats_123 : decode prog_6_method_6_code 123 = .ok (.putfield 28, 3) := by decide +kernel
theorem d_PotSearch_tryHeats_126 : decode prog_6_method_6_code 126 = .ok (.aload_n 0, 1) := by decide +kernel
theorem d_PotSearch_tryHeats_127 : decode prog_6_method_6_code 127 = .ok (.aload_n 0, 1) := by decide +kernel
theorem d_PotSearch_tryHeats_128 : decode prog_6_method_6_code 128 = .ok (.getfield 89, 3) := by decide +kernel
theorem d_PotSearch_tryHeats_131 : decode prog_6_method_6_code 131 = .ok (.putfield 97, 3) := by decide +kernel
theorem d_PotSearch_tryHeats_134 : decode prog_6_method_6_code 134 = .ok (.aload_n 0, 1) := by decide +kernel
theorem d_PotSearch_tryHeats_135 : decode prog_6_method_6_code 135 = .ok (.aload_n 0, 1) := by decide +kernel
theorem d_PotSearch_tryHeats_136 : decode prog_6_method_6_code 136 = .ok (.getfield 56, 3) := by decide +kernel
theorem d_PotSearch_tryHeats_139 : decode prog_6_method_6_code 139 = .ok (.putfield 100, 3) := by decide +kernel
theorem d_PotSearch_tryHeats_142 : decode prog_6_method_6_code 142 = .ok (.aload_n 0, 1) := by decide +kernel
theorem d_PotSearch_tryHeats_143 : decode prog_6_method_6_code 143 = .ok (.iload 5, 2) := by decide +kernel
theorem d_PotSearch_tryHeats_145 : decode prog_6_method_6_code 145 = .ok (.putfield 103, 3) := by decide +kernel
theorem d_PotSearch_tryHeats_148 : decode prog_6_method_6_code 148 = .ok (.aload_n 0, 1) := by decide +kernel
theorem d_PotSearch_tryHeats_149 : decode prog_6_method_6_code 149 = .ok (.getfield 15, 3) := by decide +kernel
theorem d_PotSearch_tryHeats_152 : decode prog_6_method_6_code 152 = .ok (.aload_n 0, 1) := by decide +kernel
theorem d_PotSearch_tryHeats_153 : decode prog_6_method_6_code 153 = .ok (.getfield 21, 3) := by decide +kernel
theorem d_PotSearch_tryHeats_156 : decode prog_6_method_6_code 156 = .ok (.invokestatic 110, 3) := by decide +kernel
theorem d_PotSearch_tryHeats_159 : decode prog_6_method_6_code 159 = .ok (.return_, 1) := by decide +kernel
theorem d_PotSearch_tryHeats_160 : decode prog_6_method_6_code 160 = .ok (.iinc 5 1, 3) := by decide +kernel
theorem d_PotSearch_tryHeats_163 : decode prog_6_method_6_code 163 = .ok (.goto (-60), 3) := by decide +kernel
theorem d_PotSearch_tryHeats_166 : decode prog_6_method_6_code 166 = .ok (.return_, 1) := by decide +kernel
theorem d_PotSearch_isEnough_0 : decode prog_6_method_7_code 0 = .ok (.iconst 0, 1) := by decide +kernel
theorem d_PotSearch_isEnough_1 : decode prog_6_method_7_code 1 = .ok (.istore 4, 2) := by decide +kernel
theorem d_PotSearch_isEnough_3 : decode prog_6_method_7_code 3 = .ok (.iload 4, 2) := by decide +kernel
theorem d_PotSearch_isEnough_5 : decode prog_6_method_7_code 5 = .ok (.iconst 3, 1) := by decide +kernel
theorem d_PotSearch_isEnough_6 : decode prog_6_method_7_code 6 = .ok (.if_icmp .ge 53, 3) := by decide +kernel
theorem d_PotSearch_isEnough_9 : decode prog_6_method_7_code 9 = .ok (.aload_n 0, 1) := by decide +kernel
theorem d_PotSearch_isEnough_10 : decode prog_6_method_7_code 10 = .ok (.getfield 9, 3) := by decide +kernel
theorem d_PotSearch_isEnough_13 : decode prog_6_method_7_code 13 = .ok (.iload 4, 2) := by decide +kernel
theorem d_PotSearch_isEnough_15 : decode prog_6_method_7_code 15 = .ok (.invokestatic 75, 3) := by decide +kernel
theorem d_PotSearch_isEnough_18 : decode prog_6_method_7_code 18 = .ok (.istore 5, 2) := by decide +kernel
theorem d_PotSearch_isEnough_20 : decode prog_6_method_7_code 20 = .ok (.iload 5, 2) := by decide +kernel
theorem d_PotSearch_isEnough_22 : decode prog_6_method_7_code 22 = .ok (.ifCond .le 31, 3) := by decide +kernel
theorem d_PotSearch_isEnough_25 : decode prog_6_method_7_code 25 = .ok (.aload_n 1, 1) := by decide +kernel
theorem d_PotSearch_isEnough_26 : decode prog_6_method_7_code 26 = .ok (.iload 4, 2) := by decide +kernel
theorem d_PotSearch_isEnough_28 : decode prog_6_method_7_code 28 = .ok (.aload_n 0, 1) := by decide +kernel
theorem d_PotSearch_isEnough_29 : decode prog_6_method_7_code 29 = .ok (.getfield 18, 3) := by decide +kernel
theorem d_PotSearch_isEnough_32 : decode prog_6_method_7_code 32 = .ok (.iload 4, 2) := by decide +kernel
theorem d_PotSearch_isEnough_34 : decode prog_6_method_7_code 34 = .ok (.invokestatic 75, 3) := by decide +kernel
theorem d_PotSearch_isEnough_37 : decode prog_6_method_7_code 37 = .ok (.iload_n 2, 1) := by decide +kernel
theorem d_PotSearch_isEnough_38 : decode prog_6_method_7_code 38 = .ok (.aload_n 0, 1) := by decide +kernel
theorem d_PotSearch_isEnough_39 : decode prog_6_method_7_code 39 = .ok (.getfield 56, 3) := by decide +kernel
theorem d_PotSearch_isEnough_42 : decode prog_6_method_7_code 42 = .ok (.iload_n 3, 1) := by decide +kernel
theorem d_PotSearch_isEnough_43 : decode prog_6_method_7_code 43 = .ok (.invokevirtual 114, 3) := by decide +kernel
theorem d_PotSearch_isEnough_46 : decode prog_6_method_7_code 46 = .ok (.iload 5, 2) := by decide +kernel
theorem d_PotSearch_isEnough_48 : decode prog_6_method_7_code 48 = .ok (.if_icmp .ge 5, 3) := by decide +kernel
theorem d_PotSearch_isEnough_51 : decode prog_6_method_7_code 51 = .ok (.iconst 0, 1) := by decide +kernel
theorem d_PotSearch_isEnough_52 : decode prog_6_method_7_code 52 = .ok (.ireturn, 1) := by decide +kernel
theorem d_PotSearch_isEnough_53 : decode prog_6_method_7_code 53 = .ok (.iinc 4 1, 3) := by decide +kernel
theorem d_PotSearch_isEnough_56 : decode prog_6_method_7_code 56 = .ok (.goto (-53), 3) := by decide +kernel
theorem d_PotSearch_isEnough_59 : decode prog_6_method_7_code 59 = .ok (.iconst 1, 1) := by decide +kernel
theorem d_PotSearch_isEnough_60 : decode prog_6_method_7_code 60 = .ok (.ireturn, 1) := by decide +kernel
theorem d_Reader_init_0 : decode prog_7_method_1_code 0 = .ok (.aload_n 0, 1) := by decide +kernel
theorem d_Reader_init_1 : decode prog_7_method_1_code 1 = .ok (.invokespecial 3, 3) := by decide +kernel
theorem d_Reader_init_4 : decode prog_7_method_1_code 4 = .ok (.aload_n 0, 1) := by decide +kernel
theorem d_Reader_init_5 : decode prog_7_method_1_code 5 = .ok (.new 9, 3) := by decide +kernel
theorem d_Reader_init_8 : decode prog_7_method_1_code 8 = .ok (.dup, 1) := by decide +kernel
theorem d_Reader_init_9 : decode prog_7_method_1_code 9 = .ok (.invokespecial 11, 3) := by decide +kernel
theorem d_Reader_init_12 : decode prog_7_method_1_code 12 = .ok (.putfield 12, 3) := by decide +kernel
theorem d_Reader_init_15 : decode prog_7_method_1_code 15 = .ok (.aload_n 0, 1) := by decide +kernel
theorem d_Reader_init_16 : decode prog_7_method_1_code 16 = .ok (.bipush 21, 2) := by decide +kernel
theorem d_Reader_init_18 : decode prog_7_method_1_code 18 = .ok (.newarray .long, 2) := by decide +kernel
theorem d_Reader_init_20 : decode prog_7_method_1_code 20 = .ok (.putfield 18, 3) := by decide +kernel
theorem d_Reader_init_23 : decode prog_7_method_1_code 23 = .ok (.aload_n 0, 1) := by decide +kernel
theorem d_Reader_init_24 : decode prog_7_method_1_code 24 = .ok (.bipush 21, 2) := by decide +kernel
theorem d_Reader_init_26 : decode prog_7_method_1_code 26 = .ok (.newarray .int, 2) := by decide +kernel
theorem d_Reader_init_28 : decode prog_7_method_1_code 28 = .ok (.putfield 22, 3) := by decide +kernel
theorem d_Reader_init_31 : decode prog_7_method_1_code 31 = .ok (.aload_n 0, 1) := by decide +kernel
theorem d_Reader_init_32 : decode prog_7_method_1_code 32 = .ok (.bipush 32, 2) := by decide +kernel
theorem d_Reader_init_34 : decode prog_7_method_1_code 34 = .ok (.newarray .int, 2) := by decide +kernel
theorem d_Reader_init_36 : decode prog_7_method_1_code 36 = .ok (.putfield 26, 3) := by decide +kernel
theorem d_Reader_init_39 : decode prog_7_method_1_code 39 = .ok (.return_, 1) := by decide +kernel
theorem d_Reader_parse_0 : decode prog_7_method_2_code 0 = .ok (.aload_n 0, 1) := by decide +kernel
theorem d_Reader_parse_1 : decode prog_7_method_2_code 1 = .ok (.getfield 12, 3) := by decide +kernel
theorem d_Reader_parse_4 : decode prog_7_method_2_code 4 = .ok (.aload_n 1, 1) := by decide +kernel
theorem d_Reader_parse_5 : decode prog_7_method_2_code 5 = .ok (.invokevirtual 29, 3) := by decide +kernel
theorem d_Reader_parse_8 : decode prog_7_method_2_code 8 = .ok (.aload_n 2, 1) := by decide +kernel
theorem d_Reader_parse_9 : decode prog_7_method_2_code 9 = .ok (.invokevirtual 33, 3) := by decide +kernel
theorem d_Reader_parse_12 : decode prog_7_method_2_code 12 = .ok (.aload_n 0, 1) := by decide +kernel
theorem d_Reader_parse_13 : decode prog_7_method_2_code 13 = .ok (.iconst 0, 1) := by decide +kernel
theorem d_Reader_parse_14 : decode prog_7_method_2_code 14 = .ok (.putfield 38, 3) := by decide +kernel
theorem d_Reader_parse_17 : decode prog_7_method_2_code 17 = .ok (.aload_n 0, 1) := by decide +kernel
theorem d_Reader_parse_18 : decode prog_7_method_2_code 18 = .ok (.iconst 0, 1) := by decide +kernel
theorem d_Reader_parse_19 : decode prog_7_method_2_code 19 = .ok (.putfield 42, 3) := by decide +kernel
theorem d_Reader_parse_22 : decode prog_7_method_2_code 22 = .ok (.aload_n 0, 1) := by decide +kernel
theorem d_Reader_parse_23 : decode prog_7_method_2_code 23 = .ok (.iconst 0, 1) := by decide +kernel
theorem d_Reader_parse_24 : decode prog_7_method_2_code 24 = .ok (.putfield 45, 3) := by decide +kernel
theorem d_Reader_parse_27 : decode prog_7_method_2_code 27 = .ok (.aload_n 0, 1) := by decide +kernel
theorem d_Reader_parse_28 : decode prog_7_method_2_code 28 = .ok (.iconst 0, 1) := by decide +kernel
theorem d_Reader_parse_29 : decode prog_7_method_2_code 29 = .ok (.putfield 48, 3) := by decide +kernel
theorem d_Reader_parse_32 : decode prog_7_method_2_code 32 = .ok (.iconst 0, 1) := by decide +kernel
theorem d_Reader_parse_33 : decode prog_7_method_2_code 33 = .ok (.istore_n 3, 1) := by decide +kernel
theorem d_Reader_parse_34 : decode prog_7_method_2_code 34 = .ok (.iload_n 3, 1) := by decide +kernel
theorem d_Reader_parse_35 : decode prog_7_method_2_code 35 = .ok (.sipush 400, 3) := by decide +kernel
theorem d_Reader_parse_38 : decode prog_7_method_2_code 38 = .ok (.if_icmp .gt 177, 3) := by decide +kernel
theorem d_Reader_parse_41 : decode prog_7_method_2_code 41 = .ok (.aload_n 0, 1) := by decide +kernel
theorem d_Reader_parse_42 : decode prog_7_method_2_code 42 = .ok (.getfield 42, 3) := by decide +kernel
theorem d_Reader_parse_45 : decode prog_7_method_2_code 45 = .ok (.ifCond .ne 170, 3) := by decide +kernel
theorem d_Reader_parse_48 : decode prog_7_method_2_code 48 = .ok (.aload_n 0, 1) := by decide +kernel
theorem d_Reader_parse_49 : decode prog_7_method_2_code 49 = .ok (.iconst 0, 1) := by decide +kernel
theorem d_Reader_parse_50 : decode prog_7_method_2_code 50 = .ok (.invokevirtual 51, 3) := by decide +kernel
theorem d_Reader_parse_53 : decode prog_7_method_2_code 53 = .ok (.ifCond .ne 162, 3) := by decide +kernel
theorem d_Reader_parse_56 : decode prog_7_method_2_code 56 = .ok (.aload_n 0, 1) := by decide +kernel
theorem d_Reader_parse_57 : decode prog_7_method_2_code 57 = .ok (.getfield 12, 3) := by decide +kernel
theorem d_Reader_parse_60 : decode prog_7_method_2_code 60 = .ok (.getfield 55, 3) := by decide +kernel
theorem d_Reader_parse_63 : decode prog_7_method_2_code 63 = .ok (.aload_n 0, 1) := by decide +kernel
theorem d_Reader_parse_64 : decode prog_7_method_2_code 64 = .ok (.getfield 38, 3) := by decide +kernel
theorem d_Reader_parse_67 : decode prog_7_method_2_code 67 = .ok (.invokestatic 58, 3) := by decide +kernel
theorem d_Reader_parse_70 : decode prog_7_method_2_code 70 = .ok (.tableswitch 134 128 136 #[50, 58, 66, 74, 82, 93, 104, 115, 126], 50) := by decide +kernel
theorem d_Reader_parse_120 : decode prog_7_method_2_code 120 = .ok (.aload_n 0, 1) := by decide +kernel
theorem d_Reader_parse_121 : decode prog_7_method_2_code 121 = .ok (.aload_n 2, 1) := by decide +kernel
theorem d_Reader_parse_122 : decode prog_7_method_2_code 122 = .ok (.invokevirtual 62, 3) := by decide +kernel
theorem d_Reader_parse_125 : decode prog_7_method_2_code 125 = .ok (.goto 84, 3) := by decide +kernel
theorem d_Reader_parse_128 : decode prog_7_method_2_code 128 = .ok (.aload_n 0, 1) := by decide +kernel
theorem d_Reader_parse_129 : decode prog_7_method_2_code 129 = .ok (.aload_n 2, 1) := by decide +kernel
theorem d_Reader_parse_130 : decode prog_7_method_2_code 130 = .ok (.invokevirtual 66, 3) := by decide +kernel
theorem d_Reader_parse_133 : decode prog_7_method_2_code 133 = .ok (.goto 76, 3) := by decide +kernel
theorem d_Reader_parse_136 : decode prog_7_method_2_code 136 = .ok (.aload_n 0, 1) := by decide +kernel
theorem d_Reader_parse_137 : decode prog_7_method_2_code 137 = .ok (.aload_n 2, 1) := by decide +kernel
theorem d_Reader_parse_138 : decode prog_7_method_2_code 138 = .ok (.invokevirtual 69, 3) := by decide +kernel
theorem d_Reader_parse_141 : decode prog_7_method_2_code 141 = .ok (.goto 68, 3) := by decide +kernel
theorem d_Reader_parse_144 : decode prog_7_method_2_code 144 = .ok (.aload_n 0, 1) := by decide +kernel
theorem d_Reader_parse_145 : decode prog_7_method_2_code 145 = .ok (.aload_n 2, 1) := by decide +kernel
theorem d_Reader_parse_146 : decode prog_7_method_2_code 146 = .ok (.invokevirtual 72, 3) := by decide +kernel
theorem d_Reader_parse_149 : decode prog_7_method_2_code 149 = .ok (.goto 60, 3) := by decide +kernel
theorem d_Reader_parse_152 : decode prog_7_method_2_code 152 = .ok (.aload_n 0, 1) := by decide +kernel
theorem d_Reader_parse_153 : decode prog_7_method_2_code 153 = .ok (.aload_n 2, 1) := by decide +kernel
theorem d_Reader_parse_154 : decode prog_7_method_2_code 154 = .ok (.getfield 75, 3) := by decide +kernel
theorem d_Reader_parse_157 : decode prog_7_method_2_code 157 = .ok (.invokevirtual 79, 3) := by decide +kernel
theorem d_Reader_parse_160 : decode prog_7_method_2_code 160 = .ok (.goto 49, 3) := by decide +kernel
theorem d_Reader_parse_163 : decode prog_7_method_2_code 163 = .ok (.aload_n 0, 1) := by decide +kernel
theorem d_Reader_parse_164 : decode prog_7_method_2_code 164 = .ok (.aload_n 2, 1) := by decide +kernel
theorem d_Reader_parse_165 : decode prog_7_method_2_code 165 = .ok (.getfield 83, 3) := by decide +kernel
theorem d_Reader_parse_168 : decode prog_7_method_2_code 168 = .ok (.invokevirtual 79, 3) := by decide +kernel
theorem d_Reader_parse_171 : decode prog_7_method_2_code 171 = .ok (.goto 38, 3) := by decide +kernel
theorem d_Reader_parse_174 : decode prog_7_method_2_code 174 = .ok (.aload_n 0, 1) := by decide +kernel
theorem d_Reader_parse_175 : decode prog_7_method_2_code 175 = .ok (.aload_n 2, 1) := by decide +kernel
theorem d_Reader_parse_176 : decode prog_7_method_2_code 176 = .ok (.getfield 86, 3) := by decide +kernel
theorem d_Reader_parse_179 : decode prog_7_method_2_code 179 = .ok (.invokevirtual 79, 3) := by decide +kernel
theorem d_Reader_parse_182 : decode prog_7_method_2_code 182 = .ok (.goto 27, 3) := by decide +kernel
theorem d_Reader_parse_185 : decode prog_7_method_2_code 185 = .ok (.aload_n 0, 1) := by decide +kernel
theorem d_Reader_parse_186 : decode prog_7_method_2_code 186 = .ok (.aload_n 2, 1) := by decide +kernel
theorem d_Reader_parse_187 : decode prog_7_method_2_code 187 = .ok (.getfield 89, 3) := by decide +kernel
theorem d_Reader_parse_190 : decode prog_7_method_2_code 190 = .ok (.invokevirtual 79, 3) := by decide +kernel
theorem d_Reader_parse_193 : decode prog_7_method_2_code 193 = .ok (.goto 16, 3) := by decide +kernel
theorem d_Reader_parse_196 : decode prog_7_method_2_code 196 = .ok (.aload_n 0, 1) := by decide +kernel
theorem d_Reader_parse_197 : decode prog_7_method_2_code 197 = .ok (.aload_n 2, 1) := by decide +kernel
theorem d_Reader_parse_198 : decode prog_7_method_2_code 198 = .ok (.invokevirtual 92, 3) := by decide +kernel
theorem d_Reader_parse_201 : decode prog_7_method_2_code 201 = .ok (.goto 8, 3) := by decide +kernel
theorem d_Reader_parse_204 : decode prog_7_method_2_code 204 = .ok (.aload_n 0, 1) := by decide +kernel
theorem d_Reader_parse_205 : decode prog_7_method_2_code 205 = .ok (.iconst 1, 1) := by decide +kernel
theorem d_Reader_parse_206 : decode prog_7_method_2_code 206 = .ok (.invokevirtual 95, 3) := by decide +kernel
theorem d_Reader_parse_209 : decode prog_7_method_2_code 209 = .ok (.iinc 3 1, 3) := by decide +kernel
theorem d_Reader_parse_212 : decode prog_7_method_2_code 212 = .ok (.goto (-178), 3) := by decide +kernel
theorem d_Reader_parse_215 : decode prog_7_method_2_code 215 = .ok (.aload_n 0, 1) := by decide +kernel
theorem d_Reader_parse_216 : decode prog_7_method_2_code 216 = .ok (.getfield 42, 3) := by decide +kernel
theorem d_Reader_parse_219 : decode prog_7_method_2_code 219 = .ok (.ifCond .ne 19, 3) := by decide +kernel
theorem d_Reader_parse_222 : decode prog_7_method_2_code 222 = .ok (.aload_n 0, 1) := by decide +kernel
theorem d_Reader_parse_223 : decode prog_7_method_2_code 223 = .ok (.aload_n 0, 1) := by decide +kernel
theorem d_Reader_parse_224 : decode prog_7_method_2_code 224 = .ok (.getfield 45, 3) := by decide +kernel
theorem d_Reader_parse_227 : decode prog_7_method_2_code 227 = .ok (.putfield 42, 3) := by decide +kernel
theorem d_Reader_parse_230 : decode prog_7_method_2_code 230 = .ok (.aload_n 0, 1) := by decide +kernel
theorem d_Reader_parse_231 : decode prog_7_method_2_code 231 = .ok (.aload_n 0, 1) := by decide +kernel
theorem d_Reader_parse_232 : decode prog_7_method_2_code 232 = .ok (.getfield 99, 3) := by decide +kernel
theorem d_Reader_parse_235 : decode prog_7_method_2_code 235 = .ok (.putfield 102, 3) := by decide +kernel
theorem d_Reader_parse_238 : decode prog_7_method_2_code 238 = .ok (.aload_n 0, 1) := by decide +kernel
theorem d_Reader_parse_239 : decode prog_7_method_2_code 239 = .ok (.getfield 42, 3) := by decide +kernel
theorem d_Reader_parse_242 : decode prog_7_method_2_code 242 = .ok (.ireturn, 1) := by decide +kernel
theorem d_Reader_placeOfFault_0 : decode prog_7_method_3_code 0 = .ok (.aload_n 0, 1) := by decide +kernel
theorem d_Reader_placeOfFault_1 : decode prog_7_method_3_code 1 = .ok (.getfield 42, 3) := by decide +kernel
theorem d_Reader_placeOfFault_4 : decode prog_7_method_3_code 4 = .ok (.ifCond .ne 7, 3) := by decide +kernel
theorem d_Reader_placeOfFault_7 : decode prog_7_method_3_code 7 = .ok (.iconst (-1), 1) := by decide +kernel
theorem d_Reader_placeOfFault_8 : decode prog_7_method_3_code 8 = .ok (.goto 17, 3) := by decide +kernel
theorem d_Reader_placeOfFault_11 : decode prog_7_method_3_code 11 = .ok (.aload_n 0, 1) := by decide +kernel
theorem d_Reader_placeOfFault_12 : decode prog_7_method_3_code 12 = .ok (.getfield 12, 3) := by decide +kernel
theorem d_Reader_placeOfFault_15 : decode prog_7_method_3_code 15 = .ok (.getfield 105, 3) := by decide +kernel
theorem d_Reader_placeOfFault_18 : decode prog_7_method_3_code 18 = .ok (.aload_n 0, 1) := by decide +kernel
theorem d_Reader_placeOfFault_19 : decode prog_7_method_3_code 19 = .ok (.getfield 102, 3) := by decide +kernel
theorem d_Reader_placeOfFault_22 : decode prog_7_method_3_code 22 = .ok (.invokestatic 58, 3) := by decide +kernel
theorem d_Reader_placeOfFault_25 : decode prog_7_method_3_code 25 = .ok (.ireturn, 1) := by decide +kernel
theorem d_Reader_is_0 : decode prog_7_method_4_code 0 = .ok (.aload_n 0, 1) := by decide +kernel
theorem d_Reader_is_1 : decode prog_7_method_4_code 1 = .ok (.getfield 12, 3) := by decide +kernel
theorem d_Reader_is_4 : decode prog_7_method_4_code 4 = .ok (.getfield 55, 3) := by decide +kernel
theorem d_Reader_is_7 : decode prog_7_method_4_code 7 = .ok (.aload_n 0, 1) := by decide +kernel
theorem d_Reader_is_8 : decode prog_7_method_4_code 8 = .ok (.getfield 38, 3) := by decide +kernel
theorem d_Reader_is_11 : decode prog_7_method_4_code 11 = .ok (.invokestatic 58, 3) := by decide +kernel
theorem d_Reader_is_14 : decode prog_7_method_4_code 14 = .ok (.iload_n 1, 1) := by decide +kernel
theorem d_Reader_is_15 : decode prog_7_method_4_code 15 = .ok (.if_icmp .ne 7, 3) := by decide +kernel
theorem d_Reader_is_18 : decode prog_7_method_4_code 18 = .ok (.iconst 1, 1) := by decide +kernel
theorem d_Reader_is_19 : decode prog_7_method_4_code 19 = .ok (.goto 4, 3) := by decide +kernel
theorem d_Reader_is_22 : decode prog_7_method_4_code 22 = .ok (.iconst 0, 1) := by decide +kernel
theorem d_Reader_is_23 : decode prog_7_method_4_code 23 = .ok (.ireturn, 1) := by decide +kernel
theorem d_Reader_stop_0 : decode prog_7_method_5_code 0 = .ok (.aload_n 0, 1) := by decide +kernel
theorem d_Reader_stop_1 : decode prog_7_method_5_code 1 = .ok (.getfield 42, 3) := by decide +kernel
theorem d_Reader_stop_4 : decode prog_7_method_5_code 4 = .ok (.ifCond .ne 16, 3) := by decide +kernel
theorem d_Reader_stop_7 : decode prog_7_method_5_code 7 = .ok (.aload_n 0, 1) := by decide +kernel
theorem d_Reader_stop_8 : decode prog_7_method_5_code 8 = .ok (.iload_n 1, 1) := by decide +kernel
theorem d_Reader_stop_9 : decode prog_7_method_5_code 9 = .ok (.putfield 42, 3) := by decide +kernel
theorem d_Reader_stop_12 : decode prog_7_method_5_code 12 = .ok (.aload_n 0, 1) := by decide +kernel
theorem d_Reader_stop_13 : decode prog_7_method_5_code 13 = .ok (.aload_n 0, 1) := by decide +kernel
theorem d_Reader_stop_14 : decode prog_7_method_5_code 14 = .ok (.getfield 38, 3) := by decide +kernel
theorem d_Reader_stop_17 : decode prog_7_method_5_code 17 = .ok (.putfield 102, 3) := by decide +kernel
theorem d_Reader_stop_20 : decode prog_7_method_5_code 20 = .ok (.return_, 1) := by decide +kernel
theorem d_Reader_stopLate_0 : decode prog_7_method_6_code 0 = .ok (.aload_n 0, 1) := by decide +kernel
theorem d_Reader_stopLate_1 : decode prog_7_method_6_code 1 = .ok (.getfield 45, 3) := by decide +kernel
theorem d_Reader_stopLate_4 : decode prog_7_method_6_code 4 = .ok (.ifCond .ne 16, 3) := by decide +kernel
theorem d_Reader_stopLate_7 : decode prog_7_method_6_code 7 = .ok (.aload_n 0, 1) := by decide +kernel
theorem d_Reader_stopLate_8 : decode prog_7_method_6_code 8 = .ok (.iload_n 1, 1) := by decide +kernel
theorem d_Reader_stopLate_9 : decode prog_7_method_6_code 9 = .ok (.putfield 45, 3) := by decide +kernel
theorem d_Reader_stopLate_12 : decode prog_7_method_6_code 12 = .ok (.aload_n 0, 1) := by decide +kernel
theorem d_Reader_stopLate_13 : decode prog_7_method_6_code 13 = .ok (.aload_n 0, 1) := by decide +kernel
theorem d_Reader_stopLate_14 : decode prog_7_method_6_code 14 = .ok (.getfield 38, 3) := by decide +kernel
theorem d_Reader_stopLate_17 : decode prog_7_method_6_code 17 = .ok (.putfield 99, 3) := by decide +kernel
theorem d_Reader_stopLate_20 : decode prog_7_method_6_code 20 = .ok (.return_, 1) := by decide +kernel
theorem d_Reader_take_0 : decode prog_7_method_7_code 0 = .ok (.aload_n 0, 1) := by decide +kernel
theorem d_Reader_take_1 : decode prog_7_method_7_code 1 = .ok (.getfield 42, 3) := by decide +kernel
theorem d_Reader_take_4 : decode prog_7_method_7_code 4 = .ok (.ifCond .eq 4, 3) := by decide +kernel
theorem d_Reader_take_7 : decode prog_7_method_7_code 7 = .ok (.return_, 1) := by decide +kernel
theorem d_Reader_take_8 : decode prog_7_method_7_code 8 = .ok (.aload_n 0, 1) := by decide +kernel
theorem d_Reader_take_9 : decode prog_7_method_7_code 9 = .ok (.getfield 38, 3) := by decide +kernel
theorem d_Reader_take_12 : decode prog_7_method_7_code 12 = .ok (.sipush 400, 3) := by decide +kernel
theorem d_Reader_take_15 : decode prog_7_method_7_code 15 = .ok (.if_icmp .lt 11, 3) := by decide +kernel
theorem d_Reader_take_18 : decode prog_7_method_7_code 18 = .ok (.aload_n 0, 1) := by decide +kernel
theorem d_Reader_take_19 : decode prog_7_method_7_code 19 = .ok (.iconst 2, 1) := by decide +kernel
theorem d_Reader_take_20 : decode prog_7_method_7_code 20 = .ok (.invokevirtual 95, 3) := by decide +kernel
theorem d_Reader_take_23 : decode prog_7_method_7_code 23 = .ok (.goto 13, 3) := by decide +kernel
theorem d_Reader_take_26 : decode prog_7_method_7_code 26 = .ok (.aload_n 0, 1) := by decide +kernel
theorem d_Reader_take_27 : decode prog_7_method_7_code 27 = .ok (.dup, 1) := by decide +kernel
theorem d_Reader_take_28 : decode prog_7_method_7_code 28 = .ok (.getfield 38, 3) := by decide +kernel
theorem d_Reader_take_31 : decode prog_7_method_7_code 31 = .ok (.iconst 1, 1) := by decide +kernel
theorem d_Reader_take_32 : decode prog_7_method_7_code 32 = .ok (.iadd, 1) := by decide +kernel
theorem d_Reader_take_33 : decode prog_7_method_7_code 33 = .ok (.putfield 38, 3) := by decide +kernel
theorem d_Reader_take_36 : decode prog_7_method_7_code 36 = .ok (.return_, 1) := by decide +kernel
theorem d_Reader_need_0 : decode prog_7_method_8_code 0 = .ok (.aload_n 0, 1) := by decide +kernel
theorem d_Reader_need_1 : decode prog_7_method_8_code 1 = .ok (.iload_n 1, 1) := by decide +kernel
theorem d_Reader_need_2 : decode prog_7_method_8_code 2 = .ok (.invokevirtual 51, 3) := by decide +kernel
theorem d_Reader_need_5 : decode prog_7_method_8_code 5 = .ok (.ifCond .eq 10, 3) := by decide +kernel
theorem d_Reader_need_8 : decode prog_7_method_8_code 8 = .ok (.aload_n 0, 1) := by decide +kernel
theorem d_Reader_need_9 : decode prog_7_method_8_code 9 = .ok (.invokevirtual 108, 3) := by decide +kernel
theorem d_Reader_need_12 : decode prog_7_method_8_code 12 = .ok (.goto 8, 3) := by decide +kernel
theorem d_Reader_need_15 : decode prog_7_method_8_code 15 = .ok (.aload_n 0, 1) := by decide +kernel
theorem d_Reader_need_16 : decode prog_7_method_8_code 16 = .ok (.iconst 1, 1) := by decide +kernel
theorem d_Reader_need_17 : decode prog_7_method_8_code 17 = .ok (.invokevirtual 95, 3) := by decide +kernel
theorem d_Reader_need_20 : decode prog_7_method_8_code 20 = .ok (.return_, 1) := by decide +kernel
theorem d_Reader_takeInt_0 : decode prog_7_method_9_code 0 = .ok (.aload_n 0, 1) := by decide +kernel
theorem d_Reader_takeInt_1 : decode prog_7_method_9_code 1 = .ok (.getfield 12, 3) := by decide +kernel
theorem d_Reader_takeInt_4 : decode prog_7_method_9_code 4 = .ok (.aload_n 0, 1) := by decide +kernel
theorem d_Reader_takeInt_5 : decode prog_7_method_9_code 5 = .ok (.getfield 38, 3) := by decide +kernel
theorem d_Reader_takeInt_8 : decode prog_7_method_9_code 8 = .ok (.invokevirtual 111, 3) := by decide +kernel
theorem d_Reader_takeInt_11 : decode prog_7_method_9_code 11 = .ok (.l2i, 1) := by decide +kernel
theorem d_Reader_takeInt_12 : decode prog_7_method_9_code 12 = .ok (.istore_n 2, 1) := by decide +kernel
theorem d_Reader_takeInt_13 : decode prog_7_method_9_code 13 = .ok (.aload_n 0, 1) := by decide +kernel
theorem d_Reader_takeInt_14 : decode prog_7_method_9_code 14 = .ok (.iconst 3, 1) := by decide +kernel
theorem d_Reader_takeInt_15 : decode prog_7_method_9_code 15 = .ok (.invokevirtual 51, 3) := by decide +kernel
theorem d_Reader_takeInt_18 : decode prog_7_method_9_code 18 = .ok (.ifCond .eq 13, 3) := by decide +kernel
theorem d_Reader_takeInt_21 : decode prog_7_method_9_code 21 = .ok (.iload_n 2, 1) := by decide +kernel
theorem d_Reader_takeInt_22 : decode prog_7_method_9_code 22 = .ok (.iload_n 1, 1) := by decide +kernel
theorem d_Reader_takeInt_23 : decode prog_7_method_9_code 23 = .ok (.if_icmp .le 8, 3) := by decide +kernel
theorem d_Reader_takeInt_26 : decode prog_7_method_9_code 26 = .ok (.aload_n 0, 1) := by decide +kernel
theorem d_Reader_takeInt_27 : decode prog_7_method_9_code 27 = .ok (.iconst 5, 1) := by decide +kernel
theorem d_Reader_takeInt_28 : decode prog_7_method_9_code 28 = .ok (.invokevirtual 115, 3) := by decide +kernel
theorem d_Reader_takeInt_31 : decode prog_7_method_9_code 31 = .ok (.aload_n 0, 1) := by decide +kernel
theorem d_Reader_takeInt_32 : decode prog_7_method_9_code 32 = .ok (.iconst 3, 1) := by decide +kernel
theorem d_Reader_takeInt_33 : decode prog_7_method_9_code 33 = .ok (.invokevirtual 118, 3) := by decide +kernel
theorem d_Reader_takeInt_36 : decode prog_7_method_9_code 36 = .ok (.iload_n 2, 1) := by decide +kernel
theorem d_Reader_takeInt_37 : decode prog_7_method_9_code 37 = .ok (.ireturn, 1) := by decide +kernel
theorem d_Reader_takeNewName_0 : decode prog_7_method_10_code 0 = .ok (.aload_n 0, 1) := by decide +kernel
theorem d_Reader_takeNewName_1 : decode prog_7_method_10_code 1 = .ok (.iconst 2, 1) := by decide +kernel
theorem d_Reader_takeNewName_2 : decode prog_7_method_10_code 2 = .ok (.invokevirtual 51, 3) := by decide +kernel
theorem d_Reader_takeNewName_5 : decode prog_7_method_10_code 5 = .ok (.ifCond .eq 92, 3) := by decide +kernel
theorem d_Reader_takeNewName_8 : decode prog_7_method_10_code 8 = .ok (.aload_n 0, 1) := by decide +kernel
theorem d_Reader_takeNewName_9 : decode prog_7_method_10_code 9 = .ok (.getfield 12, 3) := by decide +kernel
theorem d_Reader_takeNewName_12 : decode prog_7_method_10_code 12 = .ok (.aload_n 0, 1) := by decide +kernel
theorem d_Reader_takeNewName_13 : decode prog_7_method_10_code 13 = .ok (.getfield 38, 3) := by decide +kernel
theorem d_Reader_takeNewName_16 : decode prog_7_method_10_code 16 = .ok (.invokevirtual 111, 3) := by decide +kernel
theorem d_Reader_takeNewName_19 : decode prog_7_method_10_code 19 = .ok (.lstore_n 2, 1) := by decide +kernel
theorem d_Reader_takeNewName_20 : decode prog_7_method_10_code 20 = .ok (.aload_n 0, 1) := by decide +kernel
theorem d_Reader_takeNewName_21 : decode prog_7_method_10_code 21 = .ok (.lload_n 2, 1) := by decide +kernel
theorem d_Reader_takeNewName_22 : decode prog_7_method_10_code 22 = .ok (.invokevirtual 121, 3) := by decide +kernel
theorem d_Reader_takeNewName_25 : decode prog_7_method_10_code 25 = .ok (.ifCond .lt 11, 3) := by decide +kernel
theorem d_Reader_takeNewName_28 : decode prog_7_method_10_code 28 = .ok (.aload_n 0, 1) := by decide +kernel
theorem d_Reader_takeNewName_29 : decode prog_7_method_10_code 29 = .ok (.iconst 3, 1) := by decide +kernel
theorem d_Reader_takeNewName_30 : decode prog_7_method_10_code 30 = .ok (.invokevirtual 115, 3) := by decide +kernel
theorem d_Reader_takeNewName_33 : decode prog_7_method_10_code 33 = .ok (.goto 64, 3) := by decide +kernel
theorem d_Reader_takeNewName_36 : decode prog_7_method_10_code 36 = .ok (.aload_n 0, 1) := by decide +kernel
theorem d_Reader_takeNewName_37 : decode prog_7_method_10_code 37 = .ok (.getfield 48, 3) := by decide +kernel
theorem d_Reader_takeNewName_40 : decode prog_7_method_10_code 40 = .ok (.ifCond .lt 57, 3) := by decide +kernel
theorem d_Reader_takeNewName_43 : decode prog_7_method_10_code 43 = .ok (.aload_n 0, 1) := by decide +kernel
theorem d_Reader_takeNewName_44 : decode prog_7_method_10_code 44 = .ok (.getfield 48, 3) := by decide +kernel
theorem d_Reader_takeNewName_47 : decode prog_7_method_10_code 47 = .ok (.aload_n 0, 1) := by decide +kernel
theorem d_Reader_takeNewName_48 : decode prog_7_method_10_code 48 = .ok (.getfield 18, 3) := by decide +kernel
theorem d_Reader_takeNewName_51 : decode prog_7_method_10_code 51 = .ok (.arraylength, 1) := by decide +kernel
theorem d_Reader_takeNewName_52 : decode prog_7_method_10_code 52 = .ok (.if_icmp .ge 45, 3) := by decide +kernel
theorem d_Reader_takeNewName_55 : decode prog_7_method_10_code 55 = .ok (.aload_n 0, 1) := by decide +kernel
theorem d_Reader_takeNewName_56 : decode prog_7_method_10_code 56 = .ok (.getfield 48, 3) := by decide +kernel
theorem d_Reader_takeNewName_59 : decode prog_7_method_10_code 59 = .ok (.aload_n 0, 1) := by decide +kernel
theorem d_Reader_takeNewName_60 : decode prog_7_method_10_code 60 = .ok (.getfield 22, 3) := by decide +kernel
theorem d_Reader_takeNewName_63 : decode prog_7_method_10_code 63 = .ok (.arraylength, 1) := by decide +kernel
theorem d_Reader_takeNewName_64 : decode prog_7_method_10_code 64 = .ok (.if_icmp .ge 33, 3) := by decide +kernel
theorem d_Reader_takeNewName_67 : decode prog_7_method_10_code 67 = .ok (.aload_n 0, 1) := by decide +kernel
theorem d_Reader_takeNewName_68 : decode prog_7_method_10_code 68 = .ok (.getfield 18, 3) := by decide +kernel
theorem d_Reader_takeNewName_71 : decode prog_7_method_10_code 71 = .ok (.aload_n 0, 1) := by decide +kernel
theorem d_Reader_takeNewName_72 : decode prog_7_method_10_code 72 = .ok (.getfield 48, 3) := by decide +kernel
theorem d_Reader_takeNewName_75 : decode prog_7_method_10_code 75 = .ok (.lload_n 2, 1) := by decide +kernel
theorem d_Reader_takeNewName_76 : decode prog_7_method_10_code 76 = .ok (.lastore, 1) := by decide +kernel
theorem d_Reader_takeNewName_77 : decode prog_7_method_10_code 77 = .ok (.aload_n 0, 1) := by decide +kernel
theorem d_Reader_takeNewName_78 : decode prog_7_method_10_code 78 = .ok (.getfield 22, 3) := by decide +kernel
theorem d_Reader_takeNewName_81 : decode prog_7_method_10_code 81 = .ok (.aload_n 0, 1) := by decide +kernel
theorem d_Reader_takeNewName_82 : decode prog_7_method_10_code 82 = .ok (.getfield 48, 3) := by decide +kernel
theorem d_Reader_takeNewName_85 : decode prog_7_method_10_code 85 = .ok (.iload_n 1, 1) := by decide +kernel
theorem d_Reader_takeNewName_86 : decode prog_7_method_10_code 86 = .ok (.iastore, 1) := by decide +kernel
theorem d_Reader_takeNewName_87 : decode prog_7_method_10_code 87 = .ok (.aload_n 0, 1) := by decide +kernel
theorem d_Reader_takeNewName_88 : decode prog_7_method_10_code 88 = .ok (.dup, 1) := by decide +kernel
theorem d_Reader_takeNewName_89 : decode prog_7_method_10_code 89 = .ok (.getfield 48, 3) := by decide +kernel
theorem d_Reader_takeNewName_92 : decode prog_7_method_10_code 92 = .ok (.iconst 1, 1) := by decide +kernel
theorem d_Reader_takeNewName_93 : decode prog_7_method_10_code 93 = .ok (.iadd, 1) := by decide +kernel
theorem d_Reader_takeNewName_94 : decode prog_7_method_10_code 94 = .ok (.putfield 48, 3) := by decide +kernel
theorem d_Reader_takeNewName_97 : decode prog_7_method_10_code 97 = .ok (.aload_n 0, 1) := by decide +kernel
theorem d_Reader_takeNewName_98 : decode prog_7_method_10_code 98 = .ok (.iconst 2, 1) := by decide +kernel
theorem d_Reader_takeNewName_99 : decode prog_7_method_10_code 99 = .ok (.invokevirtual 118, 3) := by decide +kernel
theorem d_Reader_takeNewName_102 : decode prog_7_method_10_code 102 = .ok (.return_, 1) := by decide +kernel
theorem d_Reader_indexOf_0 : decode prog_7_method_11_code 0 = .ok (.iconst 0, 1) := by decide +kernel
theorem d_Reader_indexOf_1 : decode prog_7_method_11_code 1 = .ok (.istore_n 3, 1) := by decide +kernel
theorem d_Reader_indexOf_2 : decode prog_7_method_11_code 2 = .ok (.iload_n 3, 1) := by decide +kernel
theorem d_Reader_indexOf_3 : decode prog_7_method_11_code 3 = .ok (.aload_n 0, 1) := by decide +kernel
theorem d_Reader_indexOf_4 : decode prog_7_method_11_code 4 = .ok (.getfield 48, 3) := by decide +kernel
theorem d_Reader_indexOf_7 : decode prog_7_method_11_code 7 = .ok (.if_icmp .ge 31, 3) := by decide +kernel
theorem d_Reader_indexOf_10 : decode prog_7_method_11_code 10 = .ok (.iload_n 3, 1) := by decide +kernel
theorem d_Reader_indexOf_11 : decode prog_7_method_11_code 11 = .ok (.aload_n 0, 1) := by decide +kernel
theorem d_Reader_indexOf_12 : decode prog_7_method_11_code 12 = .ok (.getfield 18, 3) := by decide +kernel
theorem d_Reader_indexOf_15 : decode prog_7_method_11_code 15 = .ok (.arraylength, 1) := by decide +kernel
theorem d_Reader_indexOf_16 : decode prog_7_method_11_code 16 = .ok (.if_icmp .ge 22, 3) := by decide +kernel
theorem d_Reader_indexOf_19 : decode prog_7_method_11_code 19 = .ok (.aload_n 0, 1) := by decide +kernel
theorem d_Reader_indexOf_20 : decode prog_7_method_11_code 20 = .ok (.getfield 18, 3) := by decide +kernel
theorem d_Reader_indexOf_23 : decode prog_7_method_11_code 23 = .ok (.iload_n 3, 1) := by decide +kernel
theorem d_Reader_indexOf_24 : decode prog_7_method_11_code 24 = .ok (.laload, 1) := by decide +kernel
theorem d_Reader_indexOf_25 : decode prog_7_method_11_code 25 = .ok (.lload_n 1, 1) := by decide +kernel
theorem d_Reader_indexOf_26 : decode prog_7_method_11_code 26 = .ok (.lcmp, 1) := by decide +kernel
theorem d_Reader_indexOf_27 : decode prog_7_method_11_code 27 = .ok (.ifCond .ne 5, 3) := by decide +kernel
theorem d_Reader_indexOf_30 : decode prog_7_method_11_code 30 = .ok (.iload_n 3, 1) := by decide +kernel
theorem d_Reader_indexOf_31 : decode prog_7_method_11_code 31 = .ok (.ireturn, 1) := by decide +kernel
theorem d_Reader_indexOf_32 : decode prog_7_method_11_code 32 = .ok (.iinc 3 1, 3) := by decide +kernel
theorem d_Reader_indexOf_35 : decode prog_7_method_11_code 35 = .ok (.goto (-33), 3) := by decide +kernel
theorem d_Reader_indexOf_38 : decode prog_7_method_11_code 38 = .ok (.iconst (-1), 1) := by decide +kernel
theorem d_Reader_indexOf_39 : decode prog_7_method_11_code 39 = .ok (.ireturn, 1) := by decide +kernel
theorem d_Reader_takeFood_0 : decode prog_7_method_12_code 0 = .ok (.aload_n 1, 1) := by decide +kernel
theorem d_Reader_takeFood_1 : decode prog_7_method_12_code 1 = .ok (.getfield 125, 3) := by decide +kernel
theorem d_Reader_takeFood_4 : decode prog_7_method_12_code 4 = .ok (.istore_n 2, 1) := by decide +kernel
theorem d_Reader_takeFood_5 : decode prog_7_method_12_code 5 = .ok (.iload_n 2, 1) := by decide +kernel
theorem d_Reader_takeFood_6 : decode prog_7_method_12_code 6 = .ok (.bipush 6, 2) := by decide +kernel
theorem d_Reader_takeFood_8 : decode prog_7_method_12_code 8 = .ok (.if_icmp .lt 9, 3) := by decide +kernel
theorem d_Reader_takeFood_11 : decode prog_7_method_12_code 11 = .ok (.aload_n 0, 1) := by decide +kernel
theorem d_Reader_takeFood_12 : decode prog_7_method_12_code 12 = .ok (.iconst 2, 1) := by decide +kernel
theorem d_Reader_takeFood_13 : decode prog_7_method_12_code 13 = .ok (.invokevirtual 95, 3) := by decide +kernel
theorem d_Reader_takeFood_16 : decode prog_7_method_12_code 16 = .ok (.return_, 1) := by decide +kernel
theorem d_Reader_takeFood_17 : decode prog_7_method_12_code 17 = .ok (.aload_n 0, 1) := by decide +kernel
theorem d_Reader_takeFood_18 : decode prog_7_method_12_code 18 = .ok (.invokevirtual 108, 3) := by decide +kernel
theorem d_Reader_takeFood_21 : decode prog_7_method_12_code 21 = .ok (.aload_n 0, 1) := by decide +kernel
theorem d_Reader_takeFood_22 : decode prog_7_method_12_code 22 = .ok (.iload_n 2, 1) := by decide +kernel
theorem d_Reader_takeFood_23 : decode prog_7_method_12_code 23 = .ok (.invokevirtual 128, 3) := by decide +kernel
theorem d_Reader_takeFood_26 : decode prog_7_method_12_code 26 = .ok (.aload_n 1, 1) := by decide +kernel
theorem d_Reader_takeFood_27 : decode prog_7_method_12_code 27 = .ok (.getfield 131, 3) := by decide +kernel
theorem d_Reader_takeFood_30 : decode prog_7_method_12_code 30 = .ok (.iload_n 2, 1) := by decide +kernel
theorem d_Reader_takeFood_31 : decode prog_7_method_12_code 31 = .ok (.aload_n 0, 1) := by decide +kernel
theorem d_Reader_takeFood_32 : decode prog_7_method_12_code 32 = .ok (.bipush 99, 2) := by decide +kernel
theorem d_Reader_takeFood_34 : decode prog_7_method_12_code 34 = .ok (.invokevirtual 134, 3) := by decide +kernel
theorem d_Reader_takeFood_37 : decode prog_7_method_12_code 37 = .ok (.invokestatic 138, 3) := by decide +kernel
theorem d_Reader_takeFood_40 : decode prog_7_method_12_code 40 = .ok (.aload_n 1, 1) := by decide +kernel
theorem d_Reader_takeFood_41 : decode prog_7_method_12_code 41 = .ok (.getfield 142, 3) := by decide +kernel
theorem d_Reader_takeFood_44 : decode prog_7_method_12_code 44 = .ok (.iload_n 2, 1) := by decide +kernel
theorem d_Reader_takeFood_45 : decode prog_7_method_12_code 45 = .ok (.aload_n 0, 1) := by decide +kernel
theorem d_Reader_takeFood_46 : decode prog_7_method_12_code 46 = .ok (.bipush 9, 2) := by decide +kernel
theorem d_Reader_takeFood_48 : decode prog_7_method_12_code 48 = .ok (.invokevirtual 134, 3) := by decide +kernel
theorem d_Reader_takeFood_51 : decode prog_7_method_12_code 51 = .ok (.invokestatic 138, 3) := by decide +kernel
theorem d_Reader_takeFood_54 : decode prog_7_method_12_code 54 = .ok (.iconst 0, 1) := by decide +kernel
theorem d_Reader_takeFood_55 : decode prog_7_method_12_code 55 = .ok (.istore_n 3, 1) := by decide +kernel
theorem d_Reader_takeFood_56 : decode prog_7_method_12_code 56 = .ok (.iload_n 3, 1) := by decide +kernel
theorem d_Reader_takeFood_57 : decode prog_7_method_12_code 57 = .ok (.iconst 3, 1) := by decide +kernel
theorem d_Reader_takeFood_58 : decode prog_7_method_12_code 58 = .ok (.if_icmp .ge 27, 3) := by decide +kernel
theorem d_Reader_takeFood_61 : decode prog_7_method_12_code 61 = .ok (.aload_n 1, 1) := by decide +kernel
theorem d_Reader_takeFood_62 : decode prog_7_method_12_code 62 = .ok (.getfield 145, 3) := by decide +kernel
theorem d_Reader_takeFood_65 : decode prog_7_method_12_code 65 = .ok (.iload_n 2, 1) := by decide +kernel
theorem d_Reader_takeFood_66 : decode prog_7_method_12_code 66 = .ok (.iconst 3, 1) := by decide +kernel
theorem d_Reader_takeFood_67 : decode prog_7_method_12_code 67 = .ok (.imul, 1) := by decide +kernel
theorem d_Reader_takeFood_68 : decode prog_7_method_12_code 68 = .ok (.iload_n 3, 1) := by decide +kernel
theorem d_Reader_takeFood_69 : decode prog_7_method_12_code 69 = .ok (.iadd, 1) := by decide +kernel
theorem d_Reader_takeFood_70 : decode prog_7_method_12_code 70 = .ok (.aload_n 0, 1) := by decide +kernel
theorem d_Reader_takeFood_71 : decode prog_7_method_12_code 71 = .ok (.bipush 9, 2) := by decide +kernel
theorem d_Reader_takeFood_73 : decode prog_7_method_12_code 73 = .ok (.invokevirtual 134, 3) := by decide +kernel
theorem d_Reader_takeFood_76 : decode prog_7_method_12_code 76 = .ok (.invokestatic 138, 3) := by decide +kernel
theorem d_Reader_takeFood_79 : decode prog_7_method_12_code 79 = .ok (.iinc 3 1, 3) := by decide +kernel
theorem d_Reader_takeFood_82 : decode prog_7_method_12_code 82 = .ok (.goto (-26), 3) := by decide +kernel
theorem d_Reader_takeFood_85 : decode prog_7_method_12_code 85 = .ok (.aload_n 0, 1) := by decide +kernel
theorem d_Reader_takeFood_86 : decode prog_7_method_12_code 86 = .ok (.bipush 59, 2) := by decide +kernel
theorem d_Reader_takeFood_88 : decode prog_7_method_12_code 88 = .ok (.invokevirtual 118, 3) := by decide +kernel
theorem d_Reader_takeFood_91 : decode prog_7_method_12_code 91 = .ok (.aload_n 1, 1) := by decide +kernel
theorem d_Reader_takeFood_92 : decode prog_7_method_12_code 92 = .ok (.iload_n 2, 1) := by decide +kernel
theorem d_Reader_takeFood_93 : decode prog_7_method_12_code 93 = .ok (.iconst 1, 1) := by decide +kernel
theorem d_Reader_takeFood_94 : decode prog_7_method_12_code 94 = .ok (.iadd, 1) := by decide +kernel
theorem d_Reader_takeFood_95 : decode prog_7_method_12_code 95 = .ok (.putfield 125, 3) := by decide +kernel
theorem d_Reader_takeFood_98 : decode prog_7_method_12_code 98 = .ok (.return_, 1) := by decide +kernel
theorem d_Reader_takeDish_0 : decode prog_7_method_13_code 0 = .ok (.aload_n 1, 1) := by decide +kernel
theorem d_Reader_takeDish_1 : decode prog_7_method_13_code 1 = .ok (.getfield 148, 3) := by decide +kernel
theorem d_Reader_takeDish_4 : decode prog_7_method_13_code 4 = .ok (.istore_n 2, 1) := by decide +kernel
theorem d_Reader_takeDish_5 : decode prog_7_method_13_code 5 = .ok (.iload_n 2, 1) := by decide +kernel
theorem d_Reader_takeDish_6 : decode prog_7_method_13_code 6 = .ok (.iconst 5, 1) := by decide +kernel
theorem d_Reader_takeDish_7 : decode prog_7_method_13_code 7 = .ok (.if_icmp .lt 9, 3) := by decide +kernel
theorem d_Reader_takeDish_10 : decode prog_7_method_13_code 10 = .ok (.aload_n 0, 1) := by decide +kernel
theorem d_Reader_takeDish_11 : decode prog_7_method_13_code 11 = .ok (.iconst 2, 1) := by decide +kernel
theorem d_Reader_takeDish_12 : decode prog_7_method_13_code 12 = .ok (.invokevirtual 95, 3) := by decide +kernel
theorem d_Reader_takeDish_15 : decode prog_7_method_13_code 15 = .ok (.return_, 1) := by decide +kernel
theorem d_Reader_takeDish_16 : decode prog_7_method_13_code 16 = .ok (.aload_n 0, 1) := by decide +kernel
theorem d_Reader_takeDish_17 : decode prog_7_method_13_code 17 = .ok (.invokevirtual 108, 3) := by decide +kernel
theorem d_Reader_takeDish_20 : decode prog_7_method_13_code 20 = .ok (.aload_n 0, 1) := by decide +kernel
theorem d_Reader_takeDish_21 : decode prog_7_method_13_code 21 = .ok (.iconst (-1), 1) := by decide +kernel
theorem d_Reader_takeDish_22 : decode prog_7_method_13_code 22 = .ok (.invokevirtual 128, 3) := by decide +kernel
theorem d_Reader_takeDish_25 : decode prog_7_method_13_code 25 = .ok (.aload_n 1, 1) := by decide +kernel
theorem d_Reader_takeDish_26 : decode prog_7_method_13_code 26 = .ok (.getfield 151, 3) := by decide +kernel
theorem d_Reader_takeDish_29 : decode prog_7_method_13_code 29 = .ok (.iload_n 2, 1) := by decide +kernel
theorem d_Reader_takeDish_30 : decode prog_7_method_13_code 30 = .ok (.aload_n 0, 1) := by decide +kernel
theorem d_Reader_takeDish_31 : decode prog_7_method_13_code 31 = .ok (.bipush 9, 2) := by decide +kernel
theorem d_Reader_takeDish_33 : decode prog_7_method_13_code 33 = .ok (.invokevirtual 134, 3) := by decide +kernel
theorem d_Reader_takeDish_36 : decode prog_7_method_13_code 36 = .ok (.invokestatic 138, 3) := by decide +kernel
theorem d_Reader_takeDish_39 : decode prog_7_method_13_code 39 = .ok (.aload_n 0, 1) := by decide +kernel
theorem d_Reader_takeDish_40 : decode prog_7_method_13_code 40 = .ok (.aload_n 1, 1) := by decide +kernel
theorem d_Reader_takeDish_41 : decode prog_7_method_13_code 41 = .ok (.iload_n 2, 1) := by decide +kernel
theorem d_Reader_takeDish_42 : decode prog_7_method_13_code 42 = .ok (.invokevirtual 154, 3) := by decide +kernel
theorem d_Reader_takeDish_45 : decode prog_7_method_13_code 45 = .ok (.iconst 1, 1) := by decide +kernel
theorem d_Reader_takeDish_46 : decode prog_7_method_13_code 46 = .ok (.istore_n 3, 1) := by decide +kernel
theorem d_Reader_takeDish_47 : decode prog_7_method_13_code 47 = .ok (.iload_n 3, 1) := by decide +kernel
theorem d_Reader_takeDish_48 : decode prog_7_method_13_code 48 = .ok (.bipush 6, 2) := by decide +kernel
theorem d_Reader_takeDish_50 : decode prog_7_method_13_code 50 = .ok (.if_icmp .gt 44, 3) := by decide +kernel
theorem d_Reader_takeDish_53 : decode prog_7_method_13_code 53 = .ok (.aload_n 0, 1) := by decide +kernel
theorem d_Reader_takeDish_54 : decode prog_7_method_13_code 54 = .ok (.getfield 42, 3) := by decide +kernel
theorem d_Reader_takeDish_57 : decode prog_7_method_13_code 57 = .ok (.ifCond .ne 37, 3) := by decide +kernel
theorem d_Reader_takeDish_60 : decode prog_7_method_13_code 60 = .ok (.aload_n 0, 1) := by decide +kernel
theorem d_Reader_takeDish_61 : decode prog_7_method_13_code 61 = .ok (.iconst 2, 1) := by decide +kernel
theorem d_Reader_takeDish_62 : decode prog_7_method_13_code 62 = .ok (.invokevirtual 51, 3) := by decide +kernel
theorem d_Reader_takeDish_65 : decode prog_7_method_13_code 65 = .ok (.ifCond .eq 29, 3) := by decide +kernel
theorem d_Reader_takeDish_68 : decode prog_7_method_13_code 68 = .ok (.iload_n 3, 1) := by decide +kernel
theorem d_Reader_takeDish_69 : decode prog_7_method_13_code 69 = .ok (.bipush 6, 2) := by decide +kernel
theorem d_Reader_takeDish_71 : decode prog_7_method_13_code 71 = .ok (.if_icmp .ne 11, 3) := by decide +kernel
theorem d_Reader_takeDish_74 : decode prog_7_method_13_code 74 = .ok (.aload_n 0, 1) := by decide +kernel
theorem d_Reader_takeDish_75 : decode prog_7_method_13_code 75 = .ok (.iconst 2, 1) := by decide +kernel
theorem d_Reader_takeDish_76 : decode prog_7_method_13_code 76 = .ok (.invokevirtual 95, 3) := by decide +kernel
theorem d_Reader_takeDish_79 : decode prog_7_method_13_code 79 = .ok (.goto 9, 3) := by decide +kernel
theorem d_Reader_takeDish_82 : decode prog_7_method_13_code 82 = .ok (.aload_n 0, 1) := by decide +kernel
theorem d_Reader_takeDish_83 : decode prog_7_method_13_code 83 = .ok (.aload_n 1, 1) := by decide +kernel
theorem d_Reader_takeDish_84 : decode prog_7_method_13_code 84 = .ok (.iload_n 2, 1) := by decide +kernel
theorem d_Reader_takeDish_85 : decode prog_7_method_13_code 85 = .ok (.invokevirtual 154, 3) := by decide +kernel
theorem d_Reader_takeDish_88 : decode prog_7_method_13_code 88 = .ok (.iinc 3 1, 3) := by decide +kernel
theorem d_Reader_takeDish_91 : decode prog_7_method_13_code 91 = .ok (.goto (-44), 3) := by decide +kernel
theorem d_Reader_takeDish_94 : decode prog_7_method_13_code 94 = .ok (.aload_n 0, 1) := by decide +kernel
theorem d_Reader_takeDish_95 : decode prog_7_method_13_code 95 = .ok (.bipush 59, 2) := by decide +kernel
theorem d_Reader_takeDish_97 : decode prog_7_method_13_code 97 = .ok (.invokevirtual 118, 3) := by decide +kernel
theorem d_Reader_takeDish_100 : decode prog_7_method_13_code 100 = .ok (.aload_n 1, 1) := by decide +kernel
theorem d_Reader_takeDish_101 : decode prog_7_method_13_code 101 = .ok (.iload_n 2, 1) := by decide +kernel
theorem d_Reader_takeDish_102 : decode prog_7_method_13_code 102 = .ok (.iconst 1, 1) := by decide +kernel
theorem d_Reader_takeDish_103 : decode prog_7_method_13_code 103 = .ok (.iadd, 1) := by decide +kernel
theorem d_Reader_takeDish_104 : decode prog_7_method_13_code 104 = .ok (.putfield 148, 3) := by decide +kernel
theorem d_Reader_takeDish_107 : decode prog_7_method_13_code 107 = .ok (.return_, 1) := by decide +kernel
theorem d_Reader_takeIngredient_0 : decode prog_7_method_14_code 0 = .ok (.aload_n 0, 1) := by decide +kernel
theorem d_Reader_takeIngredient_1 : decode prog_7_method_14_code 1 = .ok (.iconst 2, 1) := by decide +kernel
theorem d_Reader_takeIngredient_2 : decode prog_7_method_14_code 2 = .ok (.invokevirtual 51, 3) := by decide +kernel
theorem d_Reader_takeIngredient_5 : decode prog_7_method_14_code 5 = .ok (.ifCond .eq 73, 3) := by decide +kernel
theorem d_Reader_takeIngredient_8 : decode prog_7_method_14_code 8 = .ok (.aload_n 0, 1) := by decide +kernel
theorem d_Reader_takeIngredient_9 : decode prog_7_method_14_code 9 = .ok (.aload_n 0, 1) := by decide +kernel
theorem d_Reader_takeIngredient_10 : decode prog_7_method_14_code 10 = .ok (.getfield 12, 3) := by decide +kernel
theorem d_Reader_takeIngredient_13 : decode prog_7_method_14_code 13 = .ok (.aload_n 0, 1) := by decide +kernel
theorem d_Reader_takeIngredient_14 : decode prog_7_method_14_code 14 = .ok (.getfield 38, 3) := by decide +kernel
theorem d_Reader_takeIngredient_17 : decode prog_7_method_14_code 17 = .ok (.invokevirtual 111, 3) := by decide +kernel
theorem d_Reader_takeIngredient_20 : decode prog_7_method_14_code 20 = .ok (.invokevirtual 121, 3) := by decide +kernel
theorem d_Reader_takeIngredient_23 : decode prog_7_method_14_code 23 = .ok (.istore_n 3, 1) := by decide +kernel
theorem d_Reader_takeIngredient_24 : decode prog_7_method_14_code 24 = .ok (.iload_n 3, 1) := by decide +kernel
theorem d_Reader_takeIngredient_25 : decode prog_7_method_14_code 25 = .ok (.ifCond .ge 7, 3) := by decide +kernel
theorem d_Reader_takeIngredient_28 : decode prog_7_method_14_code 28 = .ok (.iconst (-1), 1) := by decide +kernel
theorem d_Reader_takeIngredient_29 : decode prog_7_method_14_code 29 = .ok (.goto 11, 3) := by decide +kernel
theorem d_Reader_takeIngredient_32 : decode prog_7_method_14_code 32 = .ok (.aload_n 0, 1) := by decide +kernel
theorem d_Reader_takeIngredient_33 : decode prog_7_method_14_code 33 = .ok (.getfield 22, 3) := by decide +kernel
theorem d_Reader_takeIngredient_36 : decode prog_7_method_14_code 36 = .ok (.iload_n 3, 1) := by decide +kernel
theorem d_Reader_takeIngredient_37 : decode prog_7_method_14_code 37 = .ok (.invokestatic 58, 3) := by decide +kernel
theorem d_Reader_takeIngredient_40 : decode prog_7_method_14_code 40 = .ok (.istore 4, 2) := by decide +kernel
theorem d_Reader_takeIngredient_42 : decode prog_7_method_14_code 42 = .ok (.iload 4, 2) := by decide +kernel
theorem d_Reader_takeIngredient_44 : decode prog_7_method_14_code 44 = .ok (.ifCond .ge 11, 3) := by decide +kernel
theorem d_Reader_takeIngredient_47 : decode prog_7_method_14_code 47 = .ok (.aload_n 0, 1) := by decide +kernel
theorem d_Reader_takeIngredient_48 : decode prog_7_method_14_code 48 = .ok (.iconst 4, 1) := by decide +kernel
theorem d_Reader_takeIngredient_49 : decode prog_7_method_14_code 49 = .ok (.invokevirtual 115, 3) := by decide +kernel
theorem d_Reader_takeIngredient_52 : decode prog_7_method_14_code 52 = .ok (.goto 26, 3) := by decide +kernel
theorem d_Reader_takeIngredient_55 : decode prog_7_method_14_code 55 = .ok (.aload_n 1, 1) := by decide +kernel
theorem d_Reader_takeIngredient_56 : decode prog_7_method_14_code 56 = .ok (.getfield 158, 3) := by decide +kernel
theorem d_Reader_takeIngredient_59 : decode prog_7_method_14_code 59 = .ok (.iload_n 2, 1) := by decide +kernel
theorem d_Reader_takeIngredient_60 : decode prog_7_method_14_code 60 = .ok (.bipush 6, 2) := by decide +kernel
theorem d_Reader_takeIngredient_62 : decode prog_7_method_14_code 62 = .ok (.imul, 1) := by decide +kernel
theorem d_Reader_takeIngredient_63 : decode prog_7_method_14_code 63 = .ok (.iload 4, 2) := by decide +kernel
theorem d_Reader_takeIngredient_65 : decode prog_7_method_14_code 65 = .ok (.iadd, 1) := by decide +kernel
theorem d_Reader_takeIngredient_66 : decode prog_7_method_14_code 66 = .ok (.aload_n 1, 1) := by decide +kernel
theorem d_Reader_takeIngredient_67 : decode prog_7_method_14_code 67 = .ok (.iload_n 2, 1) := by decide +kernel
theorem d_Reader_takeIngredient_68 : decode prog_7_method_14_code 68 = .ok (.iload 4, 2) := by decide +kernel
theorem d_Reader_takeIngredient_70 : decode prog_7_method_14_code 70 = .ok (.invokevirtual 161, 3) := by decide +kernel
theorem d_Reader_takeIngredient_73 : decode prog_7_method_14_code 73 = .ok (.iconst 1, 1) := by decide +kernel
theorem d_Reader_takeIngredient_74 : decode prog_7_method_14_code 74 = .ok (.iadd, 1) := by decide +kernel
theorem d_Reader_takeIngredient_75 : decode prog_7_method_14_code 75 = .ok (.invokestatic 138, 3) := by decide +kernel
theorem d_Reader_takeIngredient_78 : decode prog_7_method_14_code 78 = .ok (.aload_n 0, 1) := by decide +kernel
theorem d_Reader_takeIngredient_79 : decode prog_7_method_14_code 79 = .ok (.iconst 2, 1) := by decide +kernel
theorem d_Reader_takeIngredient_80 : decode prog_7_method_14_code 80 = .ok (.invokevirtual 118, 3) := by decide +kernel
theorem d_Reader_takeIngredient_83 : decode prog_7_method_14_code 83 = .ok (.return_, 1) := by decide +kernel
theorem d_Reader_takeGuest_0 : decode prog_7_method_15_code 0 = .ok (.aload_n 1, 1) := by decide +kernel
theorem d_Reader_takeGuest_1 : decode prog_7_method_15_code 1 = .ok (.getfield 165, 3) := by decide +kernel
theorem d_Reader_takeGuest_4 : decode prog_7_method_15_code 4 = .ok (.istore_n 2, 1) := by decide +kernel
theorem d_Reader_takeGuest_5 : decode prog_7_method_15_code 5 = .ok (.iload_n 2, 1) := by decide +kernel
theorem d_Reader_takeGuest_6 : decode prog_7_method_15_code 6 = .ok (.iconst 4, 1) := by decide +kernel
theorem d_Reader_takeGuest_7 : decode prog_7_method_15_code 7 = .ok (.if_icmp .lt 9, 3) := by decide +kernel
theorem d_Reader_takeGuest_10 : decode prog_7_method_15_code 10 = .ok (.aload_n 0, 1) := by decide +kernel
theorem d_Reader_takeGuest_11 : decode prog_7_method_15_code 11 = .ok (.iconst 2, 1) := by decide +kernel
theorem d_Reader_takeGuest_12 : decode prog_7_method_15_code 12 = .ok (.invokevirtual 95, 3) := by decide +kernel
theorem d_Reader_takeGuest_15 : decode prog_7_method_15_code 15 = .ok (.return_, 1) := by decide +kernel
theorem d_Reader_takeGuest_16 : decode prog_7_method_15_code 16 = .ok (.aload_n 0, 1) := by decide +kernel
theorem d_Reader_takeGuest_17 : decode prog_7_method_15_code 17 = .ok (.invokevirtual 108, 3) := by decide +kernel
theorem d_Reader_takeGuest_20 : decode prog_7_method_15_code 20 = .ok (.aload_n 0, 1) := by decide +kernel
theorem d_Reader_takeGuest_21 : decode prog_7_method_15_code 21 = .ok (.iconst (-1), 1) := by decide +kernel
theorem d_Reader_takeGuest_22 : decode prog_7_method_15_code 22 = .ok (.invokevirtual 128, 3) := by decide +kernel
theorem d_Reader_takeGuest_25 : decode prog_7_method_15_code 25 = .ok (.aload_n 1, 1) := by decide +kernel
theorem d_Reader_takeGuest_26 : decode prog_7_method_15_code 26 = .ok (.getfield 168, 3) := by decide +kernel
theorem d_Reader_takeGuest_29 : decode prog_7_method_15_code 29 = .ok (.iload_n 2, 1) := by decide +kernel
theorem d_Reader_takeGuest_30 : decode prog_7_method_15_code 30 = .ok (.aload_n 0, 1) := by decide +kernel
theorem d_Reader_takeGuest_31 : decode prog_7_method_15_code 31 = .ok (.bipush 9, 2) := by decide +kernel
theorem d_Reader_takeGuest_33 : decode prog_7_method_15_code 33 = .ok (.invokevirtual 134, 3) := by decide +kernel
theorem d_Reader_takeGuest_36 : decode prog_7_method_15_code 36 = .ok (.invokestatic 138, 3) := by decide +kernel
theorem d_Reader_takeGuest_39 : decode prog_7_method_15_code 39 = .ok (.aload_n 0, 1) := by decide +kernel
theorem d_Reader_takeGuest_40 : decode prog_7_method_15_code 40 = .ok (.bipush 59, 2) := by decide +kernel
theorem d_Reader_takeGuest_42 : decode prog_7_method_15_code 42 = .ok (.invokevirtual 118, 3) := by decide +kernel
theorem d_Reader_takeGuest_45 : decode prog_7_method_15_code 45 = .ok (.aload_n 1, 1) := by decide +kernel
theorem d_Reader_takeGuest_46 : decode prog_7_method_15_code 46 = .ok (.iload_n 2, 1) := by decide +kernel
theorem d_Reader_takeGuest_47 : decode prog_7_method_15_code 47 = .ok (.iconst 1, 1) := by decide +kernel
theorem d_Reader_takeGuest_48 : decode prog_7_method_15_code 48 = .ok (.iadd, 1) := by decide +kernel
theorem d_Reader_takeGuest_49 : decode prog_7_method_15_code 49 = .ok (.putfield 165, 3) := by decide +kernel
theorem d_Reader_takeGuest_52 : decode prog_7_method_15_code 52 = .ok (.return_, 1) := by decide +kernel
theorem d_Reader_takeDeed_0 : decode prog_7_method_16_code 0 = .ok (.aload_n 1, 1) := by decide +kernel
theorem d_Reader_takeDeed_1 : decode prog_7_method_16_code 1 = .ok (.getfield 171, 3) := by decide +kernel
theorem d_Reader_takeDeed_4 : decode prog_7_method_16_code 4 = .ok (.istore_n 2, 1) := by decide +kernel
theorem d_Reader_takeDeed_5 : decode prog_7_method_16_code 5 = .ok (.iload_n 2, 1) := by decide +kernel
theorem d_Reader_takeDeed_6 : decode prog_7_method_16_code 6 = .ok (.bipush 6, 2) := by decide +kernel
theorem d_Reader_takeDeed_8 : decode prog_7_method_16_code 8 = .ok (.if_icmp .lt 9, 3) := by decide +kernel
theorem d_Reader_takeDeed_11 : decode prog_7_method_16_code 11 = .ok (.aload_n 0, 1) := by decide +kernel
theorem d_Reader_takeDeed_12 : decode prog_7_method_16_code 12 = .ok (.iconst 2, 1) := by decide +kernel
theorem d_Reader_takeDeed_13 : decode prog_7_method_16_code 13 = .ok (.invokevirtual 95, 3) := by decide +kernel
theorem d_Reader_takeDeed_16 : decode prog_7_method_16_code 16 = .ok (.return_, 1) := by decide +kernel
theorem d_Reader_takeDeed_17 : decode prog_7_method_16_code 17 = .ok (.aload_n 0, 1) := by decide +kernel
theorem d_Reader_takeDeed_18 : decode prog_7_method_16_code 18 = .ok (.invokevirtual 108, 3) := by decide +kernel
theorem d_Reader_takeDeed_21 : decode prog_7_method_16_code 21 = .ok (.aload_n 0, 1) := by decide +kernel
theorem d_Reader_takeDeed_22 : decode prog_7_method_16_code 22 = .ok (.iconst (-1), 1) := by decide +kernel
theorem d_Reader_takeDeed_23 : decode prog_7_method_16_code 23 = .ok (.invokevirtual 128, 3) := by decide +kernel
theorem d_Reader_takeDeed_26 : decode prog_7_method_16_code 26 = .ok (.aload_n 1, 1) := by decide +kernel
theorem d_Reader_takeDeed_27 : decode prog_7_method_16_code 27 = .ok (.getfield 174, 3) := by decide +kernel
theorem d_Reader_takeDeed_30 : decode prog_7_method_16_code 30 = .ok (.iload_n 2, 1) := by decide +kernel
theorem d_Reader_takeDeed_31 : decode prog_7_method_16_code 31 = .ok (.aload_n 0, 1) := by decide +kernel
theorem d_Reader_takeDeed_32 : decode prog_7_method_16_code 32 = .ok (.iconst 2, 1) := by decide +kernel
theorem d_Reader_takeDeed_33 : decode prog_7_method_16_code 33 = .ok (.invokevirtual 134, 3) := by decide +kernel
theorem d_Reader_takeDeed_36 : decode prog_7_method_16_code 36 = .ok (.invokestatic 138, 3) := by decide +kernel
theorem d_Reader_takeDeed_39 : decode prog_7_method_16_code 39 = .ok (.aload_n 1, 1) := by decide +kernel
theorem d_Reader_takeDeed_40 : decode prog_7_method_16_code 40 = .ok (.getfield 177, 3) := by decide +kernel
theorem d_Reader_takeDeed_43 : decode prog_7_method_16_code 43 = .ok (.iload_n 2, 1) := by decide +kernel
theorem d_Reader_takeDeed_44 : decode prog_7_method_16_code 44 = .ok (.aload_n 0, 1) := by decide +kernel
theorem d_Reader_takeDeed_45 : decode prog_7_method_16_code 45 = .ok (.bipush 99, 2) := by decide +kernel
theorem d_Reader_takeDeed_47 : decode prog_7_method_16_code 47 = .ok (.invokevirtual 134, 3) := by decide +kernel
theorem d_Reader_takeDeed_50 : decode prog_7_method_16_code 50 = .ok (.invokestatic 138, 3) := by decide +kernel
theorem d_Reader_takeDeed_53 : decode prog_7_method_16_code 53 = .ok (.aload_n 0, 1) := by decide +kernel
theorem d_Reader_takeDeed_54 : decode prog_7_method_16_code 54 = .ok (.bipush 59, 2) := by decide +kernel
theorem d_Reader_takeDeed_56 : decode prog_7_method_16_code 56 = .ok (.invokevirtual 118, 3) := by decide +kernel
theorem d_Reader_takeDeed_59 : decode prog_7_method_16_code 59 = .ok (.aload_n 1, 1) := by decide +kernel
theorem d_Reader_takeDeed_60 : decode prog_7_method_16_code 60 = .ok (.iload_n 2, 1) := by decide +kernel
theorem d_Reader_takeDeed_61 : decode prog_7_method_16_code 61 = .ok (.iconst 1, 1) := by decide +kernel
theorem d_Reader_takeDeed_62 : decode prog_7_method_16_code 62 = .ok (.iadd, 1) := by decide +kernel
theorem d_Reader_takeDeed_63 : decode prog_7_method_16_code 63 = .ok (.putfield 171, 3) := by decide +kernel
theorem d_Reader_takeDeed_66 : decode prog_7_method_16_code 66 = .ok (.return_, 1) := by decide +kernel
theorem d_Reader_takeSeed_0 : decode prog_7_method_17_code 0 = .ok (.aload_n 0, 1) := by decide +kernel
theorem d_Reader_takeSeed_1 : decode prog_7_method_17_code 1 = .ok (.invokevirtual 108, 3) := by decide +kernel
theorem d_Reader_takeSeed_4 : decode prog_7_method_17_code 4 = .ok (.aload_n 1, 1) := by decide +kernel
theorem d_Reader_takeSeed_5 : decode prog_7_method_17_code 5 = .ok (.aload_n 0, 1) := by decide +kernel
theorem d_Reader_takeSeed_6 : decode prog_7_method_17_code 6 = .ok (.sipush 9999, 3) := by decide +kernel
theorem d_Reader_takeSeed_9 : decode prog_7_method_17_code 9 = .ok (.invokevirtual 134, 3) := by decide +kernel
theorem d_Reader_takeSeed_12 : decode prog_7_method_17_code 12 = .ok (.putfield 180, 3) := by decide +kernel
theorem d_Reader_takeSeed_15 : decode prog_7_method_17_code 15 = .ok (.aload_n 0, 1) := by decide +kernel
theorem d_Reader_takeSeed_16 : decode prog_7_method_17_code 16 = .ok (.bipush 59, 2) := by decide +kernel
theorem d_Reader_takeSeed_18 : decode prog_7_method_17_code 18 = .ok (.invokevirtual 118, 3) := by decide +kernel
theorem d_Reader_takeSeed_21 : decode prog_7_method_17_code 21 = .ok (.return_, 1) := by decide +kernel
theorem d_Reader_takeLaw_0 : decode prog_7_method_18_code 0 = .ok (.aload_n 1, 1) := by decide +kernel
theorem d_Reader_takeLaw_1 : decode prog_7_method_18_code 1 = .ok (.invokevirtual 183, 3) := by decide +kernel
theorem d_Reader_takeLaw_4 : decode prog_7_method_18_code 4 = .ok (.aload_n 0, 1) := by decide +kernel
theorem d_Reader_takeLaw_5 : decode prog_7_method_18_code 5 = .ok (.invokevirtual 108, 3) := by decide +kernel
theorem d_Reader_takeLaw_8 : decode prog_7_method_18_code 8 = .ok (.aload_n 0, 1) := by decide +kernel
theorem d_Reader_takeLaw_9 : decode prog_7_method_18_code 9 = .ok (.bipush 61, 2) := by decide +kernel
theorem d_Reader_takeLaw_11 : decode prog_7_method_18_code 11 = .ok (.invokevirtual 118, 3) := by decide +kernel
theorem d_Reader_takeLaw_14 : decode prog_7_method_18_code 14 = .ok (.iconst 0, 1) := by decide +kernel
theorem d_Reader_takeLaw_15 : decode prog_7_method_18_code 15 = .ok (.istore_n 2, 1) := by decide +kernel
theorem d_Reader_takeLaw_16 : decode prog_7_method_18_code 16 = .ok (.iload_n 2, 1) := by decide +kernel
theorem d_Reader_takeLaw_17 : decode prog_7_method_18_code 17 = .ok (.iconst 4, 1) := by decide +kernel
theorem d_Reader_takeLaw_18 : decode prog_7_method_18_code 18 = .ok (.if_icmp .gt 88, 3) := by decide +kernel
theorem d_Reader_takeLaw_21 : decode prog_7_method_18_code 21 = .ok (.aload_n 0, 1) := by decide +kernel
theorem d_Reader_takeLaw_22 : decode prog_7_method_18_code 22 = .ok (.getfield 42, 3) := by decide +kernel
theorem d_Reader_takeLaw_25 : decode prog_7_method_18_code 25 = .ok (.ifCond .ne 81, 3) := by decide +kernel
theorem d_Reader_takeLaw_28 : decode prog_7_method_18_code 28 = .ok (.aload_n 0, 1) := by decide +kernel
theorem d_Reader_takeLaw_29 : decode prog_7_method_18_code 29 = .ok (.sipush 137, 3) := by decide +kernel
theorem d_Reader_takeLaw_32 : decode prog_7_method_18_code 32 = .ok (.invokevirtual 51, 3) := by decide +kernel
theorem d_Reader_takeLaw_35 : decode prog_7_method_18_code 35 = .ok (.ifCond .eq 71, 3) := by decide +kernel
theorem d_Reader_takeLaw_38 : decode prog_7_method_18_code 38 = .ok (.iload_n 2, 1) := by decide +kernel
theorem d_Reader_takeLaw_39 : decode prog_7_method_18_code 39 = .ok (.iconst 4, 1) := by decide +kernel
theorem d_Reader_takeLaw_40 : decode prog_7_method_18_code 40 = .ok (.if_icmp .ne 11, 3) := by decide +kernel
theorem d_Reader_takeLaw_43 : decode prog_7_method_18_code 43 = .ok (.aload_n 0, 1) := by decide +kernel
theorem d_Reader_takeLaw_44 : decode prog_7_method_18_code 44 = .ok (.iconst 2, 1) := by decide +kernel
theorem d_Reader_takeLaw_45 : decode prog_7_method_18_code 45 = .ok (.invokevirtual 95, 3) := by decide +kernel
theorem d_Reader_takeLaw_48 : decode prog_7_method_18_code 48 = .ok (.goto 58, 3) := by decide +kernel
theorem d_Reader_takeLaw_51 : decode prog_7_method_18_code 51 = .ok (.aload_n 0, 1) := by decide +kernel
theorem d_Reader_takeLaw_52 : decode prog_7_method_18_code 52 = .ok (.invokevirtual 108, 3) := by decide +kernel
theorem d_Reader_takeLaw_55 : decode prog_7_method_18_code 55 = .ok (.aload_n 0, 1) := by decide +kernel
theorem d_Reader_takeLaw_56 : decode prog_7_method_18_code 56 = .ok (.aload_n 1, 1) := by decide +kernel
theorem d_Reader_takeLaw_57 : decode prog_7_method_18_code 57 = .ok (.invokevirtual 186, 3) := by decide +kernel
theorem d_Reader_takeLaw_60 : decode prog_7_method_18_code 60 = .ok (.aload_n 0, 1) := by decide +kernel
theorem d_Reader_takeLaw_61 : decode prog_7_method_18_code 61 = .ok (.bipush 60, 2) := by decide +kernel
theorem d_Reader_takeLaw_63 : decode prog_7_method_18_code 63 = .ok (.invokevirtual 118, 3) := by decide +kernel
theorem d_Reader_takeLaw_66 : decode prog_7_method_18_code 66 = .ok (.aload_n 0, 1) := by decide +kernel
theorem d_Reader_takeLaw_67 : decode prog_7_method_18_code 67 = .ok (.aload_n 1, 1) := by decide +kernel
theorem d_Reader_takeLaw_68 : decode prog_7_method_18_code 68 = .ok (.invokevirtual 186, 3) := by decide +kernel
theorem d_Reader_takeLaw_71 : decode prog_7_method_18_code 71 = .ok (.aload_n 0, 1) := by decide +kernel
theorem d_Reader_takeLaw_72 : decode prog_7_method_18_code 72 = .ok (.sipush 138, 3) := by decide +kernel
theorem d_Reader_takeLaw_75 : decode prog_7_method_18_code 75 = .ok (.invokevirtual 118, 3) := by decide +kernel
theorem d_Reader_takeLaw_78 : decode prog_7_method_18_code 78 = .ok (.aload_n 1, 1) := by decide +kernel
theorem d_Reader_takeLaw_79 : decode prog_7_method_18_code 79 = .ok (.invokevirtual 189, 3) := by decide +kernel
theorem d_Reader_takeLaw_82 : decode prog_7_method_18_code 82 = .ok (.istore_n 3, 1) := by decide +kernel
theorem d_Reader_takeLaw_83 : decode prog_7_method_18_code 83 = .ok (.aload_n 0, 1) := by decide +kernel
theorem d_Reader_takeLaw_84 : decode prog_7_method_18_code 84 = .ok (.aload_n 1, 1) := by decide +kernel
theorem d_Reader_takeLaw_85 : decode prog_7_method_18_code 85 = .ok (.invokevirtual 186, 3) := by decide +kernel
theorem d_Reader_takeLaw_88 : decode prog_7_method_18_code 88 = .ok (.aload_n 0, 1) := by decide +kernel
theorem d_Reader_takeLaw_89 : decode prog_7_method_18_code 89 = .ok (.sipush 139, 3) := by decide +kernel
theorem d_Reader_takeLaw_92 : decode prog_7_method_18_code 92 = .ok (.invokevirtual 118, 3) := by decide +kernel
theorem d_Reader_takeLaw_95 : decode prog_7_method_18_code 95 = .ok (.aload_n 1, 1) := by decide +kernel
theorem d_Reader_takeLaw_96 : decode prog_7_method_18_code 96 = .ok (.iload_n 3, 1) := by decide +kernel
theorem d_Reader_takeLaw_97 : decode prog_7_method_18_code 97 = .ok (.invokevirtual 193, 3) := by decide +kernel
theorem d_Reader_takeLaw_100 : decode prog_7_method_18_code 100 = .ok (.iinc 2 1, 3) := by decide +kernel
theorem d_Reader_takeLaw_103 : decode prog_7_method_18_code 103 = .ok (.goto (-87), 3) := by decide +kernel
theorem d_Reader_takeLaw_106 : decode prog_7_method_18_code 106 = .ok (.aload_n 0, 1) := by decide +kernel
theorem d_Reader_takeLaw_107 : decode prog_7_method_18_code 107 = .ok (.aload_n 1, 1) := by decide +kernel
theorem d_Reader_takeLaw_108 : decode prog_7_method_18_code 108 = .ok (.invokevirtual 186, 3) := by decide +kernel
theorem d_Reader_takeLaw_111 : decode prog_7_method_18_code 111 = .ok (.aload_n 0, 1) := by decide +kernel
theorem d_Reader_takeLaw_112 : decode prog_7_method_18_code 112 = .ok (.bipush 59, 2) := by decide +kernel
theorem d_Reader_takeLaw_114 : decode prog_7_method_18_code 114 = .ok (.invokevirtual 118, 3) := by decide +kernel
theorem d_Reader_takeLaw_117 : decode prog_7_method_18_code 117 = .ok (.return_, 1) := by decide +kernel
theorem d_Reader_takeSum_0 : decode prog_7_method_19_code 0 = .ok (.aload_n 0, 1) := by decide +kernel
theorem d_Reader_takeSum_1 : decode prog_7_method_19_code 1 = .ok (.iconst 0, 1) := by decide +kernel
theorem d_Reader_takeSum_2 : decode prog_7_method_19_code 2 = .ok (.putfield 196, 3) := by decide +kernel
theorem d_Reader_takeSum_5 : decode prog_7_method_19_code 5 = .ok (.aload_n 0, 1) := by decide +kernel
theorem d_Reader_takeSum_6 : decode prog_7_method_19_code 6 = .ok (.iconst 0, 1) := by decide +kernel
theorem d_Reader_takeSum_7 : decode prog_7_method_19_code 7 = .ok (.putfield 199, 3) := by decide +kernel
theorem d_Reader_takeSum_10 : decode prog_7_method_19_code 10 = .ok (.iconst 1, 1) := by decide +kernel
theorem d_Reader_takeSum_11 : decode prog_7_method_19_code 11 = .ok (.istore_n 2, 1) := by decide +kernel
theorem d_Reader_takeSum_12 : decode prog_7_method_19_code 12 = .ok (.iconst 0, 1) := by decide +kernel
theorem d_Reader_takeSum_13 : decode prog_7_method_19_code 13 = .ok (.istore_n 3, 1) := by decide +kernel
theorem d_Reader_takeSum_14 : decode prog_7_method_19_code 14 = .ok (.iload_n 3, 1) := by decide +kernel
theorem d_Reader_takeSum_15 : decode prog_7_method_19_code 15 = .ok (.sipush 400, 3) := by decide +kernel
theorem d_Reader_takeSum_18 : decode prog_7_method_19_code 18 = .ok (.if_icmp .gt 71, 3) := by decide +kernel
theorem d_Reader_takeSum_21 : decode prog_7_method_19_code 21 = .ok (.aload_n 0, 1) := by decide +kernel
theorem d_Reader_takeSum_22 : decode prog_7_method_19_code 22 = .ok (.getfield 42, 3) := by decide +kernel
theorem d_Reader_takeSum_25 : decode prog_7_method_19_code 25 = .ok (.ifCond .ne 64, 3) := by decide +kernel
theorem d_Reader_takeSum_28 : decode prog_7_method_19_code 28 = .ok (.iload_n 2, 1) := by decide +kernel
theorem d_Reader_takeSum_29 : decode prog_7_method_19_code 29 = .ok (.ifCond .eq 12, 3) := by decide +kernel
theorem d_Reader_takeSum_32 : decode prog_7_method_19_code 32 = .ok (.aload_n 0, 1) := by decide +kernel
theorem d_Reader_takeSum_33 : decode prog_7_method_19_code 33 = .ok (.aload_n 1, 1) := by decide +kernel
theorem d_Reader_takeSum_34 : decode prog_7_method_19_code 34 = .ok (.invokevirtual 202, 3) := by decide +kernel
theorem d_Reader_takeSum_37 : decode prog_7_method_19_code 37 = .ok (.istore_n 2, 1) := by decide +kernel
theorem d_Reader_takeSum_38 : decode prog_7_method_19_code 38 = .ok (.goto 45, 3) := by decide +kernel
theorem d_Reader_takeSum_41 : decode prog_7_method_19_code 41 = .ok (.aload_n 0, 1) := by decide +kernel
theorem d_Reader_takeSum_42 : decode prog_7_method_19_code 42 = .ok (.getfield 12, 3) := by decide +kernel
theorem d_Reader_takeSum_45 : decode prog_7_method_19_code 45 = .ok (.getfield 55, 3) := by decide +kernel
theorem d_Reader_takeSum_48 : decode prog_7_method_19_code 48 = .ok (.aload_n 0, 1) := by decide +kernel
theorem d_Reader_takeSum_49 : decode prog_7_method_19_code 49 = .ok (.getfield 38, 3) := by decide +kernel
theorem d_Reader_takeSum_52 : decode prog_7_method_19_code 52 = .ok (.invokestatic 58, 3) := by decide +kernel
theorem d_Reader_takeSum_55 : decode prog_7_method_19_code 55 = .ok (.invokestatic 206, 3) := by decide +kernel
theorem d_Reader_takeSum_58 : decode prog_7_method_19_code 58 = .ok (.ifCond .le 13, 3) := by decide +kernel
theorem d_Reader_takeSum_61 : decode prog_7_method_19_code 61 = .ok (.aload_n 0, 1) := by decide +kernel
theorem d_Reader_takeSum_62 : decode prog_7_method_19_code 62 = .ok (.aload_n 1, 1) := by decide +kernel
theorem d_Reader_takeSum_63 : decode prog_7_method_19_code 63 = .ok (.invokevirtual 209, 3) := by decide +kernel
theorem d_Reader_takeSum_66 : decode prog_7_method_19_code 66 = .ok (.iconst 1, 1) := by decide +kernel
theorem d_Reader_takeSum_67 : decode prog_7_method_19_code 67 = .ok (.istore_n 2, 1) := by decide +kernel
theorem d_Reader_takeSum_68 : decode prog_7_method_19_code 68 = .ok (.goto 15, 3) := by decide +kernel
theorem d_Reader_takeSum_71 : decode prog_7_method_19_code 71 = .ok (.aload_n 0, 1) := by decide +kernel
theorem d_Reader_takeSum_72 : decode prog_7_method_19_code 72 = .ok (.getfield 196, 3) := by decide +kernel
theorem d_Reader_takeSum_75 : decode prog_7_method_19_code 75 = .ok (.ifCond .le 14, 3) := by decide +kernel
theorem d_Reader_takeSum_78 : decode prog_7_method_19_code 78 = .ok (.aload_n 0, 1) := by decide +kernel
theorem d_Reader_takeSum_79 : decode prog_7_method_19_code 79 = .ok (.aload_n 1, 1) := by decide +kernel
theorem d_Reader_takeSum_80 : decode prog_7_method_19_code 80 = .ok (.invokevirtual 212, 3) := by decide +kernel
theorem d_Reader_takeSum_83 : decode prog_7_method_19_code 83 = .ok (.iinc 3 1, 3) := by decide +kernel
theorem d_Reader_takeSum_86 : decode prog_7_method_19_code 86 = .ok (.goto (-72), 3) := by decide +kernel
theorem d_Reader_takeSum_89 : decode prog_7_method_19_code 89 = .ok (.aload_n 0, 1) := by decide +kernel
theorem d_Reader_takeSum_90 : decode prog_7_method_19_code 90 = .ok (.aload_n 1, 1) := by decide +kernel
theorem d_Reader_takeSum_91 : decode prog_7_method_19_code 91 = .ok (.iconst 1, 1) := by decide +kernel
theorem d_Reader_takeSum_92 : decode prog_7_method_19_code 92 = .ok (.invokevirtual 215, 3) := by decide +kernel
theorem d_Reader_takeSum_95 : decode prog_7_method_19_code 95 = .ok (.return_, 1) := by decide +kernel
theorem d_Reader_takeUnit_0 : decode prog_7_method_20_code 0 = .ok (.aload_n 0, 1) := by decide +kernel
theorem d_Reader_takeUnit_1 : decode prog_7_method_20_code 1 = .ok (.getfield 12, 3) := by decide +kernel
theorem d_Reader_takeUnit_4 : decode prog_7_method_20_code 4 = .ok (.getfield 55, 3) := by decide +kernel
theorem d_Reader_takeUnit_7 : decode prog_7_method_20_code 7 = .ok (.aload_n 0, 1) := by decide +kernel
theorem d_Reader_takeUnit_8 : decode prog_7_method_20_code 8 = .ok (.getfield 38, 3) := by decide +kernel
theorem d_Reader_takeUnit_11 : decode prog_7_method_20_code 11 = .ok (.invokestatic 58, 3) := by decide +kernel
theorem d_Reader_takeUnit_14 : decode prog_7_method_20_code 14 = .ok (.istore_n 2, 1) := by decide +kernel
theorem d_Reader_takeUnit_15 : decode prog_7_method_20_code 15 = .ok (.iload_n 2, 1) := by decide +kernel
theorem d_Reader_takeUnit_16 : decode prog_7_method_20_code 16 = .ok (.bipush 40, 2) := by decide +kernel
theorem d_Reader_takeUnit_18 : decode prog_7_method_20_code 18 = .ok (.if_icmp .ne 41, 3) := by decide +kernel
theorem d_Reader_takeUnit_21 : decode prog_7_method_20_code 21 = .ok (.aload_n 0, 1) := by decide +kernel
theorem d_Reader_takeUnit_22 : decode prog_7_method_20_code 22 = .ok (.getfield 196, 3) := by decide +kernel
theorem d_Reader_takeUnit_25 : decode prog_7_method_20_code 25 = .ok (.bipush 6, 2) := by decide +kernel
theorem d_Reader_takeUnit_27 : decode prog_7_method_20_code 27 = .ok (.if_icmp .lt 10, 3) := by decide +kernel
theorem d_Reader_takeUnit_30 : decode prog_7_method_20_code 30 = .ok (.aload_n 0, 1) := by decide +kernel
theorem d_Reader_takeUnit_31 : decode prog_7_method_20_code 31 = .ok (.iconst 2, 1) := by decide +kernel
theorem d_Reader_takeUnit_32 : decode prog_7_method_20_code 32 = .ok (.invokevirtual 95, 3) := by decide +kernel
theorem d_Reader_takeUnit_35 : decode prog_7_method_20_code 35 = .ok (.iconst 1, 1) := by decide +kernel
theorem d_Reader_takeUnit_36 : decode prog_7_method_20_code 36 = .ok (.ireturn, 1) := by decide +kernel
theorem d_Reader_takeUnit_37 : decode prog_7_method_20_code 37 = .ok (.aload_n 0, 1) := by decide +kernel
theorem d_Reader_takeUnit_38 : decode prog_7_method_20_code 38 = .ok (.dup, 1) := by decide +kernel
theorem d_Reader_takeUnit_39 : decode prog_7_method_20_code 39 = .ok (.getfield 196, 3) := by decide +kernel
theorem d_Reader_takeUnit_42 : decode prog_7_method_20_code 42 = .ok (.iconst 1, 1) := by decide +kernel
theorem d_Reader_takeUnit_43 : decode prog_7_method_20_code 43 = .ok (.iadd, 1) := by decide +kernel
theorem d_Reader_takeUnit_44 : decode prog_7_method_20_code 44 = .ok (.putfield 196, 3) := by decide +kernel
theorem d_Reader_takeUnit_47 : decode prog_7_method_20_code 47 = .ok (.aload_n 0, 1) := by decide +kernel
theorem d_Reader_takeUnit_48 : decode prog_7_method_20_code 48 = .ok (.bipush 40, 2) := by decide +kernel
theorem d_Reader_takeUnit_50 : decode prog_7_method_20_code 50 = .ok (.invokevirtual 219, 3) := by decide +kernel
theorem d_Reader_takeUnit_53 : decode prog_7_method_20_code 53 = .ok (.aload_n 0, 1) := by decide +kernel
theorem d_Reader_takeUnit_54 : decode prog_7_method_20_code 54 = .ok (.invokevirtual 108, 3) := by decide +kernel
theorem d_Reader_takeUnit_57 : decode prog_7_method_20_code 57 = .ok (.iconst 1, 1) := by decide +kernel
theorem d_Reader_takeUnit_58 : decode prog_7_method_20_code 58 = .ok (.ireturn, 1) := by decide +kernel
theorem d_Reader_takeUnit_59 : decode prog_7_method_20_code 59 = .ok (.iload_n 2, 1) := by decide +kernel
theorem d_Reader_takeUnit_60 : decode prog_7_method_20_code 60 = .ok (.iconst 3, 1) := by decide +kernel
theorem d_Reader_takeUnit_61 : decode prog_7_method_20_code 61 = .ok (.if_icmp .ne 26, 3) := by decide +kernel
theorem d_Reader_takeUnit_64 : decode prog_7_method_20_code 64 = .ok (.aload_n 1, 1) := by decide +kernel
theorem d_Reader_takeUnit_65 : decode prog_7_method_20_code 65 = .ok (.aload_n 0, 1) := by decide +kernel
theorem d_Reader_takeUnit_66 : decode prog_7_method_20_code 66 = .ok (.getfield 12, 3) := by decide +kernel
theorem d_Reader_takeUnit_69 : decode prog_7_method_20_code 69 = .ok (.aload_n 0, 1) := by decide +kernel
theorem d_Reader_takeUnit_70 : decode prog_7_method_20_code 70 = .ok (.getfield 38, 3) := by decide +kernel
theorem d_Reader_takeUnit_73 : decode prog_7_method_20_code 73 = .ok (.invokevirtual 111, 3) := by decide +kernel
theorem d_Reader_takeUnit_76 : decode prog_7_method_20_code 76 = .ok (.l2i, 1) := by decide +kernel
theorem d_Reader_takeUnit_77 : decode prog_7_method_20_code 77 = .ok (.invokevirtual 222, 3) := by decide +kernel
theorem d_Reader_takeUnit_80 : decode prog_7_method_20_code 80 = .ok (.aload_n 0, 1) := by decide +kernel
theorem d_Reader_takeUnit_81 : decode prog_7_method_20_code 81 = .ok (.invokevirtual 108, 3) := by decide +kernel
theorem d_Reader_takeUnit_84 : decode prog_7_method_20_code 84 = .ok (.goto 41, 3) := by decide +kernel
theorem d_Reader_takeUnit_87 : decode prog_7_method_20_code 87 = .ok (.iload_n 2, 1) := by decide +kernel
theorem d_Reader_takeUnit_88 : decode prog_7_method_20_code 88 = .ok (.sipush 140, 3) := by decide +kernel
theorem d_Reader_takeUnit_91 : decode prog_7_method_20_code 91 = .ok (.isub, 1) := by decide +kernel
theorem d_Reader_takeUnit_92 : decode prog_7_method_20_code 92 = .ok (.bipush 9, 2) := by decide +kernel
theorem d_Reader_takeUnit_94 : decode prog_7_method_20_code 94 = .ok (.invokestatic 225, 3) := by decide +kernel
theorem d_Reader_takeUnit_97 : decode prog_7_method_20_code 97 = .ok (.ifCond .eq 23, 3) := by decide +kernel
theorem d_Reader_takeUnit_100 : decode prog_7_method_20_code 100 = .ok (.aload_n 1, 1) := by decide +kernel
theorem d_Reader_takeUnit_101 : decode prog_7_method_20_code 101 = .ok (.sipush 10000, 3) := by decide +kernel
theorem d_Reader_takeUnit_104 : decode prog_7_method_20_code 104 = .ok (.iload_n 2, 1) := by decide +kernel
theorem d_Reader_takeUnit_105 : decode prog_7_method_20_code 105 = .ok (.iadd, 1) := by decide +kernel
theorem d_Reader_takeUnit_106 : decode prog_7_method_20_code 106 = .ok (.sipush 140, 3) := by decide +kernel
theorem d_Reader_takeUnit_109 : decode prog_7_method_20_code 109 = .ok (.isub, 1) := by decide +kernel
theorem d_Reader_takeUnit_110 : decode prog_7_method_20_code 110 = .ok (.invokevirtual 222, 3) := by decide +kernel
theorem d_Reader_takeUnit_113 : decode prog_7_method_20_code 113 = .ok (.aload_n 0, 1) := by decide +kernel
theorem d_Reader_takeUnit_114 : decode prog_7_method_20_code 114 = .ok (.invokevirtual 108, 3) := by decide +kernel
theorem d_Reader_takeUnit_117 : decode prog_7_method_20_code 117 = .ok (.goto 8, 3) := by decide +kernel
theorem d_Reader_takeUnit_120 : decode prog_7_method_20_code 120 = .ok (.aload_n 0, 1) := by decide +kernel
theorem d_Reader_takeUnit_121 : decode prog_7_method_20_code 121 = .ok (.iconst 1, 1) := by decide +kernel
theorem d_Reader_takeUnit_122 : decode prog_7_method_20_code 122 = .ok (.invokevirtual 95, 3) := by decide +kernel
theorem d_Reader_takeUnit_125 : decode prog_7_method_20_code 125 = .ok (.iconst 0, 1) := by decide +kernel
theorem d_Reader_takeUnit_126 : decode prog_7_method_20_code 126 = .ok (.ireturn, 1) := by decide +kernel
theorem d_Reader_takeSign_0 : decode prog_7_method_21_code 0 = .ok (.aload_n 0, 1) := by decide +kernel
theorem d_Reader_takeSign_1 : decode prog_7_method_21_code 1 = .ok (.getfield 12, 3) := by decide +kernel
theorem d_Reader_takeSign_4 : decode prog_7_method_21_code 4 = .ok (.getfield 55, 3) := by decide +kernel
theorem d_Reader_takeSign_7 : decode prog_7_method_21_code 7 = .ok (.aload_n 0, 1) := by decide +kernel
theorem d_Reader_takeSign_8 : decode prog_7_method_21_code 8 = .ok (.getfield 38, 3) := by decide +kernel
theorem d_Reader_takeSign_11 : decode prog_7_method_21_code 11 = .ok (.invokestatic 58, 3) := by decide +kernel
theorem d_Reader_takeSign_14 : decode prog_7_method_21_code 14 = .ok (.istore_n 2, 1) := by decide +kernel
theorem d_Reader_takeSign_15 : decode prog_7_method_21_code 15 = .ok (.aload_n 0, 1) := by decide +kernel
theorem d_Reader_takeSign_16 : decode prog_7_method_21_code 16 = .ok (.aload_n 1, 1) := by decide +kernel
theorem d_Reader_takeSign_17 : decode prog_7_method_21_code 17 = .ok (.iload_n 2, 1) := by decide +kernel
theorem d_Reader_takeSign_18 : decode prog_7_method_21_code 18 = .ok (.invokestatic 206, 3) := by decide +kernel
theorem d_Reader_takeSign_21 : decode prog_7_method_21_code 21 = .ok (.invokevirtual 215, 3) := by decide +kernel
theorem d_Reader_takeSign_24 : decode prog_7_method_21_code 24 = .ok (.aload_n 0, 1) := by decide +kernel
theorem d_Reader_takeSign_25 : decode prog_7_method_21_code 25 = .ok (.iload_n 2, 1) := by decide +kernel
theorem d_Reader_takeSign_26 : decode prog_7_method_21_code 26 = .ok (.invokevirtual 219, 3) := by decide +kernel
theorem d_Reader_takeSign_29 : decode prog_7_method_21_code 29 = .ok (.aload_n 0, 1) := by decide +kernel
theorem d_Reader_takeSign_30 : decode prog_7_method_21_code 30 = .ok (.invokevirtual 108, 3) := by decide +kernel
theorem d_Reader_takeSign_33 : decode prog_7_method_21_code 33 = .ok (.return_, 1) := by decide +kernel
theorem d_Reader_takeClose_0 : decode prog_7_method_22_code 0 = .ok (.aload_n 0, 1) := by decide +kernel
theorem d_Reader_takeClose_1 : decode prog_7_method_22_code 1 = .ok (.bipush 41, 2) := by decide +kernel
theorem d_Reader_takeClose_3 : decode prog_7_method_22_code 3 = .ok (.invokevirtual 51, 3) := by decide +kernel
theorem d_Reader_takeClose_6 : decode prog_7_method_22_code 6 = .ok (.ifCond .ne 9, 3) := by decide +kernel
theorem d_Reader_takeClose_9 : decode prog_7_method_22_code 9 = .ok (.aload_n 0, 1) := by decide +kernel
theorem d_Reader_takeClose_10 : decode prog_7_method_22_code 10 = .ok (.iconst 1, 1) := by decide +kernel
theorem d_Reader_takeClose_11 : decode prog_7_method_22_code 11 = .ok (.invokevirtual 95, 3) := by decide +kernel
theorem d_Reader_takeClose_14 : decode prog_7_method_22_code 14 = .ok (.return_, 1) := by decide +kernel
theorem d_Reader_takeClose_15 : decode prog_7_method_22_code 15 = .ok (.aload_n 0, 1) := by decide +kernel
theorem d_Reader_takeClose_16 : decode prog_7_method_22_code 16 = .ok (.aload_n 1, 1) := by decide +kernel
theorem d_Reader_takeClose_17 : decode prog_7_method_22_code 17 = .ok (.iconst 1, 1) := by decide +kernel
theorem d_Reader_takeClose_18 : decode prog_7_method_22_code 18 = .ok (.invokevirtual 215, 3) := by decide +kernel
theorem d_Reader_takeClose_21 : decode prog_7_method_22_code 21 = .ok (.aload_n 0, 1) := by decide +kernel
theorem d_Reader_takeClose_22 : decode prog_7_method_22_code 22 = .ok (.dup, 1) := by decide +kernel
theorem d_Reader_takeClose_23 : decode prog_7_method_22_code 23 = .ok (.getfield 199, 3) := by decide +kernel
theorem d_Reader_takeClose_26 : decode prog_7_method_22_code 26 = .ok (.iconst 1, 1) := by decide +kernel
theorem d_Reader_takeClose_27 : decode prog_7_method_22_code 27 = .ok (.isub, 1) := by decide +kernel
theorem d_Reader_takeClose_28 : decode prog_7_method_22_code 28 = .ok (.putfield 199, 3) := by decide +kernel
theorem d_Reader_takeClose_31 : decode prog_7_method_22_code 31 = .ok (.aload_n 0, 1) := by decide +kernel
theorem d_Reader_takeClose_32 : decode prog_7_method_22_code 32 = .ok (.dup, 1) := by decide +kernel
theorem d_Reader_takeClose_33 : decode prog_7_method_22_code 33 = .ok (.getfield 196, 3) := by decide +kernel
theorem d_Reader_takeClose_36 : decode prog_7_method_22_code 36 = .ok (.iconst 1, 1) := by decide +kernel
theorem d_Reader_takeClose_37 : decode prog_7_method_22_code 37 = .ok (.isub, 1) := by decide +kernel
theorem d_Reader_takeClose_38 : decode prog_7_method_22_code 38 = .ok (.putfield 196, 3) := by decide +kernel
theorem d_Reader_takeClose_41 : decode prog_7_method_22_code 41 = .ok (.aload_n 0, 1) := by decide +kernel
theorem d_Reader_takeClose_42 : decode prog_7_method_22_code 42 = .ok (.invokevirtual 108, 3) := by decide +kernel
theorem d_Reader_takeClose_45 : decode prog_7_method_22_code 45 = .ok (.return_, 1) := by decide +kernel
theorem d_Reader_holdSign_0 : decode prog_7_method_23_code 0 = .ok (.aload_n 0, 1) := by decide +kernel
theorem d_Reader_holdSign_1 : decode prog_7_method_23_code 1 = .ok (.getfield 26, 3) := by decide +kernel
theorem d_Reader_holdSign_4 : decode prog_7_method_23_code 4 = .ok (.aload_n 0, 1) := by decide +kernel
theorem d_Reader_holdSign_5 : decode prog_7_method_23_code 5 = .ok (.getfield 199, 3) := by decide +kernel
theorem d_Reader_holdSign_8 : decode prog_7_method_23_code 8 = .ok (.iload_n 1, 1) := by decide +kernel
theorem d_Reader_holdSign_9 : decode prog_7_method_23_code 9 = .ok (.invokestatic 138, 3) := by decide +kernel
theorem d_Reader_holdSign_12 : decode prog_7_method_23_code 12 = .ok (.aload_n 0, 1) := by decide +kernel
theorem d_Reader_holdSign_13 : decode prog_7_method_23_code 13 = .ok (.dup, 1) := by decide +kernel
theorem d_Reader_holdSign_14 : decode prog_7_method_23_code 14 = .ok (.getfield 199, 3) := by decide +kernel
theorem d_Reader_holdSign_17 : decode prog_7_method_23_code 17 = .ok (.iconst 1, 1) := by decide +kernel
theorem d_Reader_holdSign_18 : decode prog_7_method_23_code 18 = .ok (.iadd, 1) := by decide +kernel
theorem d_Reader_holdSign_19 : decode prog_7_method_23_code 19 = .ok (.putfield 199, 3) := by decide +kernel
theorem d_Reader_holdSign_22 : decode prog_7_method_23_code 22 = .ok (.return_, 1) := by decide +kernel
theorem d_Reader_layHeld_0 : decode prog_7_method_24_code 0 = .ok (.aload_n 0, 1) := by decide +kernel
theorem d_Reader_layHeld_1 : decode prog_7_method_24_code 1 = .ok (.getfield 199, 3) := by decide +kernel
theorem d_Reader_layHeld_4 : decode prog_7_method_24_code 4 = .ok (.ifCond .le 55, 3) := by decide +kernel
theorem d_Reader_layHeld_7 : decode prog_7_method_24_code 7 = .ok (.aload_n 0, 1) := by decide +kernel
theorem d_Reader_layHeld_8 : decode prog_7_method_24_code 8 = .ok (.getfield 26, 3) := by decide +kernel
theorem d_Reader_layHeld_11 : decode prog_7_method_24_code 11 = .ok (.aload_n 0, 1) := by decide +kernel
theorem d_Reader_layHeld_12 : decode prog_7_method_24_code 12 = .ok (.getfield 199, 3) := by decide +kernel
theorem d_Reader_layHeld_15 : decode prog_7_method_24_code 15 = .ok (.iconst 1, 1) := by decide +kernel
theorem d_Reader_layHeld_16 : decode prog_7_method_24_code 16 = .ok (.isub, 1) := by decide +kernel
theorem d_Reader_layHeld_17 : decode prog_7_method_24_code 17 = .ok (.invokestatic 58, 3) := by decide +kernel
theorem d_Reader_layHeld_20 : decode prog_7_method_24_code 20 = .ok (.invokestatic 206, 3) := by decide +kernel
theorem d_Reader_layHeld_23 : decode prog_7_method_24_code 23 = .ok (.iload_n 2, 1) := by decide +kernel
theorem d_Reader_layHeld_24 : decode prog_7_method_24_code 24 = .ok (.if_icmp .lt 35, 3) := by decide +kernel
theorem d_Reader_layHeld_27 : decode prog_7_method_24_code 27 = .ok (.aload_n 0, 1) := by decide +kernel
theorem d_Reader_layHeld_28 : decode prog_7_method_24_code 28 = .ok (.dup, 1) := by decide +kernel
theorem d_Reader_layHeld_29 : decode prog_7_method_24_code 29 = .ok (.getfield 199, 3) := by decide +kernel
theorem d_Reader_layHeld_32 : decode prog_7_method_24_code 32 = .ok (.iconst 1, 1) := by decide +kernel
theorem d_Reader_layHeld_33 : decode prog_7_method_24_code 33 = .ok (.isub, 1) := by decide +kernel
theorem d_Reader_layHeld_34 : decode prog_7_method_24_code 34 = .ok (.putfield 199, 3) := by decide +kernel
theorem d_Reader_layHeld_37 : decode prog_7_method_24_code 37 = .ok (.aload_n 1, 1) := by decide +kernel
theorem d_Reader_layHeld_38 : decode prog_7_method_24_code 38 = .ok (.sipush 20000, 3) := by decide +kernel
theorem d_Reader_layHeld_41 : decode prog_7_method_24_code 41 = .ok (.aload_n 0, 1) := by decide +kernel
theorem d_Reader_layHeld_42 : decode prog_7_method_24_code 42 = .ok (.getfield 26, 3) := by decide +kernel
theorem d_Reader_layHeld_45 : decode prog_7_method_24_code 45 = .ok (.aload_n 0, 1) := by decide +kernel
theorem d_Reader_layHeld_46 : decode prog_7_method_24_code 46 = .ok (.getfield 199, 3) := by decide +kernel
theorem d_Reader_layHeld_49 : decode prog_7_method_24_code 49 = .ok (.invokestatic 58, 3) := by decide +kernel
theorem d_Reader_layHeld_52 : decode prog_7_method_24_code 52 = .ok (.iadd, 1) := by decide +kernel
theorem d_Reader_layHeld_53 : decode prog_7_method_24_code 53 = .ok (.invokevirtual 222, 3) := by decide +kernel
theorem d_Reader_layHeld_56 : decode prog_7_method_24_code 56 = .ok (.goto (-56), 3) := by decide +kernel
theorem d_Reader_layHeld_59 : decode prog_7_method_24_code 59 = .ok (.return_, 1) := by decide +kernel
theorem d_Reader_rank_0 : decode prog_7_method_25_code 0 = .ok (.iload_n 0, 1) := by decide +kernel
theorem d_Reader_rank_1 : decode prog_7_method_25_code 1 = .ok (.bipush 42, 2) := by decide +kernel
theorem d_Reader_rank_3 : decode prog_7_method_25_code 3 = .ok (.if_icmp .eq 9, 3) := by decide +kernel
theorem d_Reader_rank_6 : decode prog_7_method_25_code 6 = .ok (.iload_n 0, 1) := by decide +kernel
theorem d_Reader_rank_7 : decode prog_7_method_25_code 7 = .ok (.bipush 47, 2) := by decide +kernel
theorem d_Reader_rank_9 : decode prog_7_method_25_code 9 = .ok (.if_icmp .ne 5, 3) := by decide +kernel
theorem d_Reader_rank_12 : decode prog_7_method_25_code 12 = .ok (.iconst 2, 1) := by decide +kernel
theorem d_Reader_rank_13 : decode prog_7_method_25_code 13 = .ok (.ireturn, 1) := by decide +kernel
theorem d_Reader_rank_14 : decode prog_7_method_25_code 14 = .ok (.iload_n 0, 1) := by decide +kernel
theorem d_Reader_rank_15 : decode prog_7_method_25_code 15 = .ok (.bipush 43, 2) := by decide +kernel
theorem d_Reader_rank_17 : decode prog_7_method_25_code 17 = .ok (.if_icmp .eq 9, 3) := by decide +kernel
theorem d_Reader_rank_20 : decode prog_7_method_25_code 20 = .ok (.iload_n 0, 1) := by decide +kernel
theorem d_Reader_rank_21 : decode prog_7_method_25_code 21 = .ok (.bipush 45, 2) := by decide +kernel
theorem d_Reader_rank_23 : decode prog_7_method_25_code 23 = .ok (.if_icmp .ne 7, 3) := by decide +kernel
theorem d_Reader_rank_26 : decode prog_7_method_25_code 26 = .ok (.iconst 1, 1) := by decide +kernel
theorem d_Reader_rank_27 : decode prog_7_method_25_code 27 = .ok (.goto 4, 3) := by decide +kernel
theorem d_Reader_rank_30 : decode prog_7_method_25_code 30 = .ok (.iconst 0, 1) := by decide +kernel
theorem d_Reader_rank_31 : decode prog_7_method_25_code 31 = .ok (.ireturn, 1) := by decide +kernel
theorem d_Slots_init_0 : decode prog_8_method_1_code 0 = .ok (.aload_n 0, 1) := by decide +kernel
theorem d_Slots_init_1 : decode prog_8_method_1_code 1 = .ok (.invokespecial 3, 3) := by decide +kernel
theorem d_Slots_init_4 : decode prog_8_method_1_code 4 = .ok (.aload_n 0, 1) := by decide +kernel
theorem d_Slots_init_5 : decode prog_8_method_1_code 5 = .ok (.iconst 3, 1) := by decide +kernel
theorem d_Slots_init_6 : decode prog_8_method_1_code 6 = .ok (.anewarray 9, 3) := by decide +kernel
theorem d_Slots_init_9 : decode prog_8_method_1_code 9 = .ok (.putfield 11, 3) := by decide +kernel
theorem d_Slots_init_12 : decode prog_8_method_1_code 12 = .ok (.iconst 0, 1) := by decide +kernel
theorem d_Slots_init_13 : decode prog_8_method_1_code 13 = .ok (.istore_n 1, 1) := by decide +kernel
theorem d_Slots_init_14 : decode prog_8_method_1_code 14 = .ok (.iload_n 1, 1) := by decide +kernel
theorem d_Slots_init_15 : decode prog_8_method_1_code 15 = .ok (.aload_n 0, 1) := by decide +kernel
theorem d_Slots_init_16 : decode prog_8_method_1_code 16 = .ok (.getfield 11, 3) := by decide +kernel
theorem d_Slots_init_19 : decode prog_8_method_1_code 19 = .ok (.arraylength, 1) := by decide +kernel
theorem d_Slots_init_20 : decode prog_8_method_1_code 20 = .ok (.if_icmp .ge 22, 3) := by decide +kernel
theorem d_Slots_init_23 : decode prog_8_method_1_code 23 = .ok (.aload_n 0, 1) := by decide +kernel
theorem d_Slots_init_24 : decode prog_8_method_1_code 24 = .ok (.getfield 11, 3) := by decide +kernel
theorem d_Slots_init_27 : decode prog_8_method_1_code 27 = .ok (.iload_n 1, 1) := by decide +kernel
theorem d_Slots_init_28 : decode prog_8_method_1_code 28 = .ok (.new 9, 3) := by decide +kernel
theorem d_Slots_init_31 : decode prog_8_method_1_code 31 = .ok (.dup, 1) := by decide +kernel
theorem d_Slots_init_32 : decode prog_8_method_1_code 32 = .ok (.invokespecial 17, 3) := by decide +kernel
theorem d_Slots_init_35 : decode prog_8_method_1_code 35 = .ok (.aastore, 1) := by decide +kernel
theorem d_Slots_init_36 : decode prog_8_method_1_code 36 = .ok (.iinc 1 1, 3) := by decide +kernel
theorem d_Slots_init_39 : decode prog_8_method_1_code 39 = .ok (.goto (-25), 3) := by decide +kernel
theorem d_Slots_init_42 : decode prog_8_method_1_code 42 = .ok (.return_, 1) := by decide +kernel
theorem d_Slots_clear_0 : decode prog_8_method_2_code 0 = .ok (.aload_n 0, 1) := by decide +kernel
theorem d_Slots_clear_1 : decode prog_8_method_2_code 1 = .ok (.iconst 0, 1) := by decide +kernel
theorem d_Slots_clear_2 : decode prog_8_method_2_code 2 = .ok (.putfield 18, 3) := by decide +kernel
theorem d_Slots_clear_5 : decode prog_8_method_2_code 5 = .ok (.return_, 1) := by decide +kernel
theorem d_Slots_keep_0 : decode prog_8_method_3_code 0 = .ok (.iload_n 1, 1) := by decide +kernel
theorem d_Slots_keep_1 : decode prog_8_method_3_code 1 = .ok (.ifCond .lt 21, 3) := by decide +kernel
theorem d_Slots_keep_4 : decode prog_8_method_3_code 4 = .ok (.iload_n 1, 1) := by decide +kernel
theorem d_Slots_keep_5 : decode prog_8_method_3_code 5 = .ok (.aload_n 0, 1) := by decide +kernel
theorem d_Slots_keep_6 : decode prog_8_method_3_code 6 = .ok (.getfield 11, 3) := by decide +kernel
theorem d_Slots_keep_9 : decode prog_8_method_3_code 9 = .ok (.arraylength, 1) := by decide +kernel
theorem d_Slots_keep_10 : decode prog_8_method_3_code 10 = .ok (.if_icmp .ge 12, 3) := by decide +kernel
theorem d_Slots_keep_13 : decode prog_8_method_3_code 13 = .ok (.aload_n 0, 1) := by decide +kernel
theorem d_Slots_keep_14 : decode prog_8_method_3_code 14 = .ok (.getfield 11, 3) := by decide +kernel
theorem d_Slots_keep_17 : decode prog_8_method_3_code 17 = .ok (.iload_n 1, 1) := by decide +kernel
theorem d_Slots_keep_18 : decode prog_8_method_3_code 18 = .ok (.aaload, 1) := by decide +kernel
theorem d_Slots_keep_19 : decode prog_8_method_3_code 19 = .ok (.ifnonnull 5, 3) := by decide +kernel
theorem d_Slots_keep_22 : decode prog_8_method_3_code 22 = .ok (.iconst 0, 1) := by decide +kernel
theorem d_Slots_keep_23 : decode prog_8_method_3_code 23 = .ok (.ireturn, 1) := by decide +kernel
theorem d_Slots_keep_24 : decode prog_8_method_3_code 24 = .ok (.aload_n 0, 1) := by decide +kernel
theorem d_Slots_keep_25 : decode prog_8_method_3_code 25 = .ok (.getfield 11, 3) := by decide +kernel
theorem d_Slots_keep_28 : decode prog_8_method_3_code 28 = .ok (.iload_n 1, 1) := by decide +kernel
theorem d_Slots_keep_29 : decode prog_8_method_3_code 29 = .ok (.aaload, 1) := by decide +kernel
theorem d_Slots_keep_30 : decode prog_8_method_3_code 30 = .ok (.aload_n 2, 1) := by decide +kernel
theorem d_Slots_keep_31 : decode prog_8_method_3_code 31 = .ok (.invokevirtual 22, 3) := by decide +kernel
theorem d_Slots_keep_34 : decode prog_8_method_3_code 34 = .ok (.aload_n 0, 1) := by decide +kernel
theorem d_Slots_keep_35 : decode prog_8_method_3_code 35 = .ok (.dup, 1) := by decide +kernel
theorem d_Slots_keep_36 : decode prog_8_method_3_code 36 = .ok (.getfield 18, 3) := by decide +kernel
theorem d_Slots_keep_39 : decode prog_8_method_3_code 39 = .ok (.iconst 1, 1) := by decide +kernel
theorem d_Slots_keep_40 : decode prog_8_method_3_code 40 = .ok (.iload_n 1, 1) := by decide +kernel
theorem d_Slots_keep_41 : decode prog_8_method_3_code 41 = .ok (.ishl, 1) := by decide +kernel
theorem d_Slots_keep_42 : decode prog_8_method_3_code 42 = .ok (.ior, 1) := by decide +kernel
theorem d_Slots_keep_43 : decode prog_8_method_3_code 43 = .ok (.putfield 18, 3) := by decide +kernel
theorem d_Slots_keep_46 : decode prog_8_method_3_code 46 = .ok (.iconst 1, 1) := by decide +kernel
theorem d_Slots_keep_47 : decode prog_8_method_3_code 47 = .ok (.ireturn, 1) := by decide +kernel
theorem d_Slots_bring_0 : decode prog_8_method_4_code 0 = .ok (.iload_n 1, 1) := by decide +kernel
theorem d_Slots_bring_1 : decode prog_8_method_4_code 1 = .ok (.ifCond .lt 32, 3) := by decide +kernel
theorem d_Slots_bring_4 : decode prog_8_method_4_code 4 = .ok (.iload_n 1, 1) := by decide +kernel
theorem d_Slots_bring_5 : decode prog_8_method_4_code 5 = .ok (.aload_n 0, 1) := by decide +kernel
theorem d_Slots_bring_6 : decode prog_8_method_4_code 6 = .ok (.getfield 11, 3) := by decide +kernel
theorem d_Slots_bring_9 : decode prog_8_method_4_code 9 = .ok (.arraylength, 1) := by decide +kernel
theorem d_Slots_bring_10 : decode prog_8_method_4_code 10 = .ok (.if_icmp .ge 23, 3) := by decide +kernel
theorem d_Slots_bring_13 : decode prog_8_method_4_code 13 = .ok (.aload_n 0, 1) := by decide +kernel
theorem d_Slots_bring_14 : decode prog_8_method_4_code 14 = .ok (.getfield 11, 3) := by decide +kernel
theorem d_Slots_bring_17 : decode prog_8_method_4_code 17 = .ok (.iload_n 1, 1) := by decide +kernel
theorem d_Slots_bring_18 : decode prog_8_method_4_code 18 = .ok (.aaload, 1) := by decide +kernel
theorem d_Slots_bring_19 : decode prog_8_method_4_code 19 = .ok (.ifnull 14, 3) := by decide +kernel
theorem d_Slots_bring_22 : decode prog_8_method_4_code 22 = .ok (.aload_n 0, 1) := by decide +kernel
theorem d_Slots_bring_23 : decode prog_8_method_4_code 23 = .ok (.getfield 18, 3) := by decide +kernel
theorem d_Slots_bring_26 : decode prog_8_method_4_code 26 = .ok (.iload_n 1, 1) := by decide +kernel
theorem d_Slots_bring_27 : decode prog_8_method_4_code 27 = .ok (.invokestatic 26, 3) := by decide +kernel
theorem d_Slots_bring_30 : decode prog_8_method_4_code 30 = .ok (.ifCond .ne 5, 3) := by decide +kernel
theorem d_Slots_bring_33 : decode prog_8_method_4_code 33 = .ok (.iconst 0, 1) := by decide +kernel
theorem d_Slots_bring_34 : decode prog_8_method_4_code 34 = .ok (.ireturn, 1) := by decide +kernel
theorem d_Slots_bring_35 : decode prog_8_method_4_code 35 = .ok (.aload_n 2, 1) := by decide +kernel
theorem d_Slots_bring_36 : decode prog_8_method_4_code 36 = .ok (.aload_n 0, 1) := by decide +kernel
theorem d_Slots_bring_37 : decode prog_8_method_4_code 37 = .ok (.getfield 11, 3) := by decide +kernel
theorem d_Slots_bring_40 : decode prog_8_method_4_code 40 = .ok (.iload_n 1, 1) := by decide +kernel
theorem d_Slots_bring_41 : decode prog_8_method_4_code 41 = .ok (.aaload, 1) := by decide +kernel
theorem d_Slots_bring_42 : decode prog_8_method_4_code 42 = .ok (.invokevirtual 22, 3) := by decide +kernel
theorem d_Slots_bring_45 : decode prog_8_method_4_code 45 = .ok (.iconst 1, 1) := by decide +kernel
theorem d_Slots_bring_46 : decode prog_8_method_4_code 46 = .ok (.ireturn, 1) := by decide +kernel
theorem d_Slots_full_0 : decode prog_8_method_5_code 0 = .ok (.aload_n 0, 1) := by decide +kernel
theorem d_Slots_full_1 : decode prog_8_method_5_code 1 = .ok (.getfield 18, 3) := by decide +kernel
theorem d_Slots_full_4 : decode prog_8_method_5_code 4 = .ok (.invokestatic 30, 3) := by decide +kernel
theorem d_Slots_full_7 : decode prog_8_method_5_code 7 = .ok (.ireturn, 1) := by decide +kernel
theorem d_State_init_0 : decode prog_9_method_1_code 0 = .ok (.aload_n 0, 1) := by decide +kernel
theorem d_State_init_1 : decode prog_9_method_1_code 1 = .ok (.invokespecial 3, 3) := by decide +kernel
theorem d_State_init_4 : decode prog_9_method_1_code 4 = .ok (.aload_n 0, 1) := by decide +kernel
theorem d_State_init_5 : decode prog_9_method_1_code 5 = .ok (.bipush (-2), 2) := by decide +kernel
theorem d_State_init_7 : decode prog_9_method_1_code 7 = .ok (.putfield 9, 3) := by decide +kernel
theorem d_State_init_10 : decode prog_9_method_1_code 10 = .ok (.aload_n 0, 1) := by decide +kernel
theorem d_State_init_11 : decode prog_9_method_1_code 11 = .ok (.iconst 3, 1) := by decide +kernel
theorem d_State_init_12 : decode prog_9_method_1_code 12 = .ok (.newarray .int, 2) := by decide +kernel
theorem d_State_init_14 : decode prog_9_method_1_code 14 = .ok (.putfield 15, 3) := by decide +kernel
theorem d_State_init_17 : decode prog_9_method_1_code 17 = .ok (.aload_n 0, 1) := by decide +kernel
theorem d_State_init_18 : decode prog_9_method_1_code 18 = .ok (.bipush 6, 2) := by decide +kernel
theorem d_State_init_20 : decode prog_9_method_1_code 20 = .ok (.newarray .int, 2) := by decide +kernel
theorem d_State_init_22 : decode prog_9_method_1_code 22 = .ok (.putfield 19, 3) := by decide +kernel
theorem d_State_init_25 : decode prog_9_method_1_code 25 = .ok (.aload_n 0, 1) := by decide +kernel
theorem d_State_init_26 : decode prog_9_method_1_code 26 = .ok (.iconst 5, 1) := by decide +kernel
theorem d_State_init_27 : decode prog_9_method_1_code 27 = .ok (.newarray .int, 2) := by decide +kernel
theorem d_State_init_29 : decode prog_9_method_1_code 29 = .ok (.putfield 22, 3) := by decide +kernel
theorem d_State_init_32 : decode prog_9_method_1_code 32 = .ok (.aload_n 0, 1) := by decide +kernel
theorem d_State_init_33 : decode prog_9_method_1_code 33 = .ok (.iconst 4, 1) := by decide +kernel
theorem d_State_init_34 : decode prog_9_method_1_code 34 = .ok (.newarray .int, 2) := by decide +kernel
theorem d_State_init_36 : decode prog_9_method_1_code 36 = .ok (.putfield 25, 3) := by decide +kernel
theorem d_State_init_39 : decode prog_9_method_1_code 39 = .ok (.aload_n 0, 1) := by decide +kernel
theorem d_State_init_40 : decode prog_9_method_1_code 40 = .ok (.iconst 4, 1) := by decide +kernel
theorem d_State_init_41 : decode prog_9_method_1_code 41 = .ok (.newarray .int, 2) := by decide +kernel
theorem d_State_init_43 : decode prog_9_method_1_code 43 = .ok (.putfield 28, 3) := by decide +kernel
theorem d_State_init_46 : decode prog_9_method_1_code 46 = .ok (.aload_n 0, 1) := by decide +kernel
theorem d_State_init_47 : decode prog_9_method_1_code 47 = .ok (.bipush 12, 2) := by decide +kernel
theorem d_State_init_49 : decode prog_9_method_1_code 49 = .ok (.newarray .int, 2) := by decide +kernel
theorem d_State_init_51 : decode prog_9_method_1_code 51 = .ok (.putfield 31, 3) := by decide +kernel
theorem d_State_init_54 : decode prog_9_method_1_code 54 = .ok (.return_, 1) := by decide +kernel
theorem d_State_begin_0 : decode prog_9_method_2_code 0 = .ok (.aload_n 0, 1) := by decide +kernel
theorem d_State_begin_1 : decode prog_9_method_2_code 1 = .ok (.iconst 0, 1) := by decide +kernel
theorem d_State_begin_2 : decode prog_9_method_2_code 2 = .ok (.putfield 34, 3) := by decide +kernel
theorem d_State_begin_5 : decode prog_9_method_2_code 5 = .ok (.aload_n 0, 1) := by decide +kernel
theorem d_State_begin_6 : decode prog_9_method_2_code 6 = .ok (.iconst 0, 1) := by decide +kernel
theorem d_State_begin_7 : decode prog_9_method_2_code 7 = .ok (.putfield 37, 3) := by decide +kernel
theorem d_State_begin_10 : decode prog_9_method_2_code 10 = .ok (.aload_n 0, 1) := by decide +kernel
theorem d_State_begin_11 : decode prog_9_method_2_code 11 = .ok (.iconst 0, 1) := by decide +kernel
theorem d_State_begin_12 : decode prog_9_method_2_code 12 = .ok (.putfield 40, 3) := by decide +kernel
theorem d_State_begin_15 : decode prog_9_method_2_code 15 = .ok (.aload_n 0, 1) := by decide +kernel
theorem d_State_begin_16 : decode prog_9_method_2_code 16 = .ok (.bipush (-2), 2) := by decide +kernel
theorem d_State_begin_18 : decode prog_9_method_2_code 18 = .ok (.putfield 9, 3) := by decide +kernel
theorem d_State_begin_21 : decode prog_9_method_2_code 21 = .ok (.aload_n 0, 1) := by decide +kernel
theorem d_State_begin_22 : decode prog_9_method_2_code 22 = .ok (.getfield 15, 3) := by decide +kernel
theorem d_State_begin_25 : decode prog_9_method_2_code 25 = .ok (.invokestatic 43, 3) := by decide +kernel
theorem d_State_begin_28 : decode prog_9_method_2_code 28 = .ok (.aload_n 0, 1) := by decide +kernel
theorem d_State_begin_29 : decode prog_9_method_2_code 29 = .ok (.getfield 22, 3) := by decide +kernel
theorem d_State_begin_32 : decode prog_9_method_2_code 32 = .ok (.invokestatic 43, 3) := by decide +kernel
theorem d_State_begin_35 : decode prog_9_method_2_code 35 = .ok (.aload_n 0, 1) := by decide +kernel
theorem d_State_begin_36 : decode prog_9_method_2_code 36 = .ok (.getfield 25, 3) := by decide +kernel
theorem d_State_begin_39 : decode prog_9_method_2_code 39 = .ok (.invokestatic 43, 3) := by decide +kernel
theorem d_State_begin_42 : decode prog_9_method_2_code 42 = .ok (.aload_n 0, 1) := by decide +kernel
theorem d_State_begin_43 : decode prog_9_method_2_code 43 = .ok (.getfield 28, 3) := by decide +kernel
theorem d_State_begin_46 : decode prog_9_method_2_code 46 = .ok (.invokestatic 43, 3) := by decide +kernel
theorem d_State_begin_49 : decode prog_9_method_2_code 49 = .ok (.aload_n 0, 1) := by decide +kernel
theorem d_State_begin_50 : decode prog_9_method_2_code 50 = .ok (.getfield 31, 3) := by decide +kernel
theorem d_State_begin_53 : decode prog_9_method_2_code 53 = .ok (.invokestatic 43, 3) := by decide +kernel
theorem d_State_begin_56 : decode prog_9_method_2_code 56 = .ok (.iconst 0, 1) := by decide +kernel
theorem d_State_begin_57 : decode prog_9_method_2_code 57 = .ok (.istore_n 2, 1) := by decide +kernel
theorem d_State_begin_58 : decode prog_9_method_2_code 58 = .ok (.iload_n 2, 1) := by decide +kernel
theorem d_State_begin_59 : decode prog_9_method_2_code 59 = .ok (.bipush 6, 2) := by decide +kernel
theorem d_State_begin_61 : decode prog_9_method_2_code 61 = .ok (.if_icmp .ge 37, 3) := by decide +kernel
theorem d_State_begin_64 : decode prog_9_method_2_code 64 = .ok (.aload_n 0, 1) := by decide +kernel
theorem d_State_begin_65 : decode prog_9_method_2_code 65 = .ok (.getfield 19, 3) := by decide +kernel
theorem d_State_begin_68 : decode prog_9_method_2_code 68 = .ok (.iload_n 2, 1) := by decide +kernel
theorem d_State_begin_69 : decode prog_9_method_2_code 69 = .ok (.iload_n 2, 1) := by decide +kernel
theorem d_State_begin_70 : decode prog_9_method_2_code 70 = .ok (.aload_n 1, 1) := by decide +kernel
theorem d_State_begin_71 : decode prog_9_method_2_code 71 = .ok (.getfield 47, 3) := by decide +kernel
theorem d_State_begin_74 : decode prog_9_method_2_code 74 = .ok (.if_icmp .ge 14, 3) := by decide +kernel
theorem d_State_begin_77 : decode prog_9_method_2_code 77 = .ok (.aload_n 1, 1) := by decide +kernel
theorem d_State_begin_78 : decode prog_9_method_2_code 78 = .ok (.getfield 52, 3) := by decide +kernel
theorem d_State_begin_81 : decode prog_9_method_2_code 81 = .ok (.iload_n 2, 1) := by decide +kernel
theorem d_State_begin_82 : decode prog_9_method_2_code 82 = .ok (.invokestatic 53, 3) := by decide +kernel
theorem d_State_begin_85 : decode prog_9_method_2_code 85 = .ok (.goto 4, 3) := by decide +kernel
theorem d_State_begin_88 : decode prog_9_method_2_code 88 = .ok (.iconst 0, 1) := by decide +kernel
theorem d_State_begin_89 : decode prog_9_method_2_code 89 = .ok (.invokestatic 57, 3) := by decide +kernel
theorem d_State_begin_92 : decode prog_9_method_2_code 92 = .ok (.iinc 2 1, 3) := by decide +kernel
theorem d_State_begin_95 : decode prog_9_method_2_code 95 = .ok (.goto (-37), 3) := by decide +kernel
theorem d_State_begin_98 : decode prog_9_method_2_code 98 = .ok (.return_, 1) := by decide +kernel
theorem d_State_copyFrom_0 : decode prog_9_method_3_code 0 = .ok (.aload_n 0, 1) := by decide +kernel
theorem d_State_copyFrom_1 : decode prog_9_method_3_code 1 = .ok (.aload_n 1, 1) := by decide +kernel
theorem d_State_copyFrom_2 : decode prog_9_method_3_code 2 = .ok (.getfield 34, 3) := by decide +kernel
theorem d_State_copyFrom_5 : decode prog_9_method_3_code 5 = .ok (.putfield 34, 3) := by decide +kernel
theorem d_State_copyFrom_8 : decode prog_9_method_3_code 8 = .ok (.aload_n 0, 1) := by decide +kernel
theorem d_State_copyFrom_9 : decode prog_9_method_3_code 9 = .ok (.aload_n 1, 1) := by decide +kernel
theorem d_State_copyFrom_10 : decode prog_9_method_3_code 10 = .ok (.getfield 37, 3) := by decide +kernel
theorem d_State_copyFrom_13 : decode prog_9_method_3_code 13 = .ok (.putfield 37, 3) := by decide +kernel
theorem d_State_copyFrom_16 : decode prog_9_method_3_code 16 = .ok (.aload_n 0, 1) := by decide +kernel
theorem d_State_copyFrom_17 : decode prog_9_method_3_code 17 = .ok (.aload_n 1, 1) := by decide +kernel
theorem d_State_copyFrom_18 : decode prog_9_method_3_code 18 = .ok (.getfield 40, 3) := by decide +kernel
theorem d_State_copyFrom_21 : decode prog_9_method_3_code 21 = .ok (.putfield 40, 3) := by decide +kernel
theorem d_State_copyFrom_24 : decode prog_9_method_3_code 24 = .ok (.aload_n 0, 1) := by decide +kernel
theorem d_State_copyFrom_25 : decode prog_9_method_3_code 25 = .ok (.aload_n 1, 1) := by decide +kernel
theorem d_State_copyFrom_26 : decode prog_9_method_3_code 26 = .ok (.getfield 9, 3) := by decide +kernel
theorem d_State_copyFrom_29 : decode prog_9_method_3_code 29 = .ok (.putfield 9, 3) := by decide +kernel
theorem d_State_copyFrom_32 : decode prog_9_method_3_code 32 = .ok (.aload_n 1, 1) := by decide +kernel
theorem d_State_copyFrom_33 : decode prog_9_method_3_code 33 = .ok (.getfield 15, 3) := by decide +kernel
theorem d_State_copyFrom_36 : decode prog_9_method_3_code 36 = .ok (.aload_n 0, 1) := by decide +kernel
theorem d_State_copyFrom_37 : decode prog_9_method_3_code 37 = .ok (.getfield 15, 3) := by decide +kernel
theorem d_State_copyFrom_40 : decode prog_9_method_3_code 40 = .ok (.invokestatic 61, 3) := by decide +kernel
theorem d_State_copyFrom_43 : decode prog_9_method_3_code 43 = .ok (.aload_n 1, 1) := by decide +kernel
theorem d_State_copyFrom_44 : decode prog_9_method_3_code 44 = .ok (.getfield 19, 3) := by decide +kernel
theorem d_State_copyFrom_47 : decode prog_9_method_3_code 47 = .ok (.aload_n 0, 1) := by decide +kernel
theorem d_State_copyFrom_48 : decode prog_9_method_3_code 48 = .ok (.getfield 19, 3) := by decide +kernel
theorem d_State_copyFrom_51 : decode prog_9_method_3_code 51 = .ok (.invokestatic 61, 3) := by decide +kernel
theorem d_State_copyFrom_54 : decode prog_9_method_3_code 54 = .ok (.aload_n 1, 1) := by decide +kernel
theorem d_State_copyFrom_55 : decode prog_9_method_3_code 55 = .ok (.getfield 22, 3) := by decide +kernel
theorem d_State_copyFrom_58 : decode prog_9_method_3_code 58 = .ok (.aload_n 0, 1) := by decide +kernel
theorem d_State_copyFrom_59 : decode prog_9_method_3_code 59 = .ok (.getfield 22, 3) := by decide +kernel
theorem d_State_copyFrom_62 : decode prog_9_method_3_code 62 = .ok (.invokestatic 61, 3) := by decide +kernel
theorem d_State_copyFrom_65 : decode prog_9_method_3_code 65 = .ok (.aload_n 1, 1) := by decide +kernel
theorem d_State_copyFrom_66 : decode prog_9_method_3_code 66 = .ok (.getfield 25, 3) := by decide +kernel
theorem d_State_copyFrom_69 : decode prog_9_method_3_code 69 = .ok (.aload_n 0, 1) := by decide +kernel
theorem d_State_copyFrom_70 : decode prog_9_method_3_code 70 = .ok (.getfield 25, 3) := by decide +kernel
theorem d_State_copyFrom_73 : decode prog_9_method_3_code 73 = .ok (.invokestatic 61, 3) := by decide +kernel
theorem d_State_copyFrom_76 : decode prog_9_method_3_code 76 = .ok (.aload_n 1, 1) := by decide +kernel
theorem d_State_copyFrom_77 : decode prog_9_method_3_code 77 = .ok (.getfield 28, 3) := by decide +kernel
theorem d_State_copyFrom_80 : decode prog_9_method_3_code 80 = .ok (.aload_n 0, 1) := by decide +kernel
theorem d_State_copyFrom_81 : decode prog_9_method_3_code 81 = .ok (.getfield 28, 3) := by decide +kernel
theorem d_State_copyFrom_84 : decode prog_9_method_3_code 84 = .ok (.invokestatic 61, 3) := by decide +kernel
theorem d_State_copyFrom_87 : decode prog_9_method_3_code 87 = .ok (.aload_n 1, 1) := by decide +kernel
theorem d_State_copyFrom_88 : decode prog_9_method_3_code 88 = .ok (.getfield 31, 3) := by decide +kernel
theorem d_State_copyFrom_91 : decode prog_9_method_3_code 91 = .ok (.aload_n 0, 1) := by decide +kernel
theorem d_State_copyFrom_92 : decode prog_9_method_3_code 92 = .ok (.getfield 31, 3) := by decide +kernel
theorem d_State_copyFrom_95 : decode prog_9_method_3_code 95 = .ok (.invokestatic 61, 3) := by decide +kernel
theorem d_State_copyFrom_98 : decode prog_9_method_3_code 98 = .ok (.return_, 1) := by decide +kernel
theorem d_State_inStore_0 : decode prog_9_method_4_code 0 = .ok (.iconst 0, 1) := by decide +kernel
theorem d_State_inStore_1 : decode prog_9_method_4_code 1 = .ok (.istore_n 3, 1) := by decide +kernel
theorem d_State_inStore_2 : decode prog_9_method_4_code 2 = .ok (.iload_n 3, 1) := by decide +kernel
theorem d_State_inStore_3 : decode prog_9_method_4_code 3 = .ok (.aload_n 1, 1) := by decide +kernel
theorem d_State_inStore_4 : decode prog_9_method_4_code 4 = .ok (.getfield 47, 3) := by decide +kernel
theorem d_State_inStore_7 : decode prog_9_method_4_code 7 = .ok (.if_icmp .ge 28, 3) := by decide +kernel
theorem d_State_inStore_10 : decode prog_9_method_4_code 10 = .ok (.aload_n 0, 1) := by decide +kernel
theorem d_State_inStore_11 : decode prog_9_method_4_code 11 = .ok (.getfield 19, 3) := by decide +kernel
theorem d_State_inStore_14 : decode prog_9_method_4_code 14 = .ok (.iload_n 3, 1) := by decide +kernel
theorem d_State_inStore_15 : decode prog_9_method_4_code 15 = .ok (.invokestatic 53, 3) := by decide +kernel
theorem d_State_inStore_18 : decode prog_9_method_4_code 18 = .ok (.aload_n 1, 1) := by decide +kernel
theorem d_State_inStore_19 : decode prog_9_method_4_code 19 = .ok (.iload_n 2, 1) := by decide +kernel
theorem d_State_inStore_20 : decode prog_9_method_4_code 20 = .ok (.iload_n 3, 1) := by decide +kernel
theorem d_State_inStore_21 : decode prog_9_method_4_code 21 = .ok (.invokevirtual 65, 3) := by decide +kernel
theorem d_State_inStore_24 : decode prog_9_method_4_code 24 = .ok (.if_icmp .ge 5, 3) := by decide +kernel
theorem d_State_inStore_27 : decode prog_9_method_4_code 27 = .ok (.iconst 0, 1) := by decide +kernel
theorem d_State_inStore_28 : decode prog_9_method_4_code 28 = .ok (.ireturn, 1) := by decide +kernel
theorem d_State_inStore_29 : decode prog_9_method_4_code 29 = .ok (.iinc 3 1, 3) := by decide +kernel
theorem d_State_inStore_32 : decode prog_9_method_4_code 32 = .ok (.goto (-30), 3) := by decide +kernel
theorem d_State_inStore_35 : decode prog_9_method_4_code 35 = .ok (.iconst 1, 1) := by decide +kernel
theorem d_State_inStore_36 : decode prog_9_method_4_code 36 = .ok (.ireturn, 1) := by decide +kernel
theorem d_State_slipInto_0 : decode prog_9_method_5_code 0 = .ok (.bipush 8, 2) := by decide +kernel
theorem d_State_slipInto_2 : decode prog_9_method_5_code 2 = .ok (.aload_n 0, 1) := by decide +kernel
theorem d_State_slipInto_3 : decode prog_9_method_5_code 3 = .ok (.getfield 40, 3) := by decide +kernel
theorem d_State_slipInto_6 : decode prog_9_method_5_code 6 = .ok (.imul, 1) := by decide +kernel
theorem d_State_slipInto_7 : decode prog_9_method_5_code 7 = .ok (.istore 4, 2) := by decide +kernel
theorem d_State_slipInto_9 : decode prog_9_method_5_code 9 = .ok (.bipush 100, 2) := by decide +kernel
theorem d_State_slipInto_11 : decode prog_9_method_5_code 11 = .ok (.iload_n 3, 1) := by decide +kernel
theorem d_State_slipInto_12 : decode prog_9_method_5_code 12 = .ok (.iload 4, 2) := by decide +kernel
theorem d_State_slipInto_14 : decode prog_9_method_5_code 14 = .ok (.invokestatic 69, 3) := by decide +kernel
theorem d_State_slipInto_17 : decode prog_9_method_5_code 17 = .ok (.aload_n 1, 1) := by decide +kernel
theorem d_State_slipInto_18 : decode prog_9_method_5_code 18 = .ok (.iload_n 2, 1) := by decide +kernel
theorem d_State_slipInto_19 : decode prog_9_method_5_code 19 = .ok (.aload_n 0, 1) := by decide +kernel
theorem d_State_slipInto_20 : decode prog_9_method_5_code 20 = .ok (.getfield 34, 3) := by decide +kernel
theorem d_State_slipInto_23 : decode prog_9_method_5_code 23 = .ok (.invokevirtual 73, 3) := by decide +kernel
theorem d_State_slipInto_26 : decode prog_9_method_5_code 26 = .ok (.if_icmp .lt 6, 3) := by decide +kernel
theorem d_State_slipInto_29 : decode prog_9_method_5_code 29 = .ok (.bipush (-2), 2) := by decide +kernel
theorem d_State_slipInto_31 : decode prog_9_method_5_code 31 = .ok (.ireturn, 1) := by decide +kernel
theorem d_State_slipInto_32 : decode prog_9_method_5_code 32 = .ok (.aload_n 1, 1) := by decide +kernel
theorem d_State_slipInto_33 : decode prog_9_method_5_code 33 = .ok (.getfield 47, 3) := by decide +kernel
theorem d_State_slipInto_36 : decode prog_9_method_5_code 36 = .ok (.iload_n 3, 1) := by decide +kernel
theorem d_State_slipInto_37 : decode prog_9_method_5_code 37 = .ok (.iload 4, 2) := by decide +kernel
theorem d_State_slipInto_39 : decode prog_9_method_5_code 39 = .ok (.iconst 1, 1) := by decide +kernel
theorem d_State_slipInto_40 : decode prog_9_method_5_code 40 = .ok (.iadd, 1) := by decide +kernel
theorem d_State_slipInto_41 : decode prog_9_method_5_code 41 = .ok (.invokestatic 69, 3) := by decide +kernel
theorem d_State_slipInto_44 : decode prog_9_method_5_code 44 = .ok (.istore 5, 2) := by decide +kernel
theorem d_State_slipInto_46 : decode prog_9_method_5_code 46 = .ok (.aload_n 0, 1) := by decide +kernel
theorem d_State_slipInto_47 : decode prog_9_method_5_code 47 = .ok (.getfield 19, 3) := by decide +kernel
theorem d_State_slipInto_50 : decode prog_9_method_5_code 50 = .ok (.iload 5, 2) := by decide +kernel
theorem d_State_slipInto_52 : decode prog_9_method_5_code 52 = .ok (.invokestatic 53, 3) := by decide +kernel
theorem d_State_slipInto_55 : decode prog_9_method_5_code 55 = .ok (.aload_n 1, 1) := by decide +kernel
theorem d_State_slipInto_56 : decode prog_9_method_5_code 56 = .ok (.iload_n 2, 1) := by decide +kernel
theorem d_State_slipInto_57 : decode prog_9_method_5_code 57 = .ok (.iload 5, 2) := by decide +kernel
theorem d_State_slipInto_59 : decode prog_9_method_5_code 59 = .ok (.invokevirtual 65, 3) := by decide +kernel
theorem d_State_slipInto_62 : decode prog_9_method_5_code 62 = .ok (.if_icmp .le 8, 3) := by decide +kernel
theorem d_State_slipInto_65 : decode prog_9_method_5_code 65 = .ok (.iload 5, 2) := by decide +kernel
theorem d_State_slipInto_67 : decode prog_9_method_5_code 67 = .ok (.goto 5, 3) := by decide +kernel
theorem d_State_slipInto_70 : decode prog_9_method_5_code 70 = .ok (.bipush (-2), 2) := by decide +kernel
theorem d_State_slipInto_72 : decode prog_9_method_5_code 72 = .ok (.ireturn, 1) := by decide +kernel
theorem d_State_cookOne_0 : decode prog_9_method_6_code 0 = .ok (.aload_n 0, 1) := by decide +kernel
theorem d_State_cookOne_1 : decode prog_9_method_6_code 1 = .ok (.aload_n 1, 1) := by decide +kernel
theorem d_State_cookOne_2 : decode prog_9_method_6_code 2 = .ok (.iload_n 2, 1) := by decide +kernel
theorem d_State_cookOne_3 : decode prog_9_method_6_code 3 = .ok (.aload_n 1, 1) := by decide +kernel
theorem d_State_cookOne_4 : decode prog_9_method_6_code 4 = .ok (.getfield 76, 3) := by decide +kernel
theorem d_State_cookOne_7 : decode prog_9_method_6_code 7 = .ok (.invokevirtual 79, 3) := by decide +kernel
theorem d_State_cookOne_10 : decode prog_9_method_6_code 10 = .ok (.istore_n 3, 1) := by decide +kernel
theorem d_State_cookOne_11 : decode prog_9_method_6_code 11 = .ok (.iconst 0, 1) := by decide +kernel
theorem d_State_cookOne_12 : decode prog_9_method_6_code 12 = .ok (.istore 4, 2) := by decide +kernel
theorem d_State_cookOne_14 : decode prog_9_method_6_code 14 = .ok (.iload 4, 2) := by decide +kernel
theorem d_State_cookOne_16 : decode prog_9_method_6_code 16 = .ok (.aload_n 1, 1) := by decide +kernel
theorem d_State_cookOne_17 : decode prog_9_method_6_code 17 = .ok (.getfield 47, 3) := by decide +kernel
theorem d_State_cookOne_20 : decode prog_9_method_6_code 20 = .ok (.if_icmp .ge 51, 3) := by decide +kernel
theorem d_State_cookOne_23 : decode prog_9_method_6_code 23 = .ok (.aload_n 1, 1) := by decide +kernel
theorem d_State_cookOne_24 : decode prog_9_method_6_code 24 = .ok (.iload_n 2, 1) := by decide +kernel
theorem d_State_cookOne_25 : decode prog_9_method_6_code 25 = .ok (.iload 4, 2) := by decide +kernel
theorem d_State_cookOne_27 : decode prog_9_method_6_code 27 = .ok (.invokevirtual 65, 3) := by decide +kernel
theorem d_State_cookOne_30 : decode prog_9_method_6_code 30 = .ok (.iload 4, 2) := by decide +kernel
theorem d_State_cookOne_32 : decode prog_9_method_6_code 32 = .ok (.iload_n 3, 1) := by decide +kernel
theorem d_State_cookOne_33 : decode prog_9_method_6_code 33 = .ok (.if_icmp .ne 7, 3) := by decide +kernel
theorem d_State_cookOne_36 : decode prog_9_method_6_code 36 = .ok (.iconst 1, 1) := by decide +kernel
theorem d_State_cookOne_37 : decode prog_9_method_6_code 37 = .ok (.goto 4, 3) := by decide +kernel
theorem d_State_cookOne_40 : decode prog_9_method_6_code 40 = .ok (.iconst 0, 1) := by decide +kernel
theorem d_State_cookOne_41 : decode prog_9_method_6_code 41 = .ok (.iadd, 1) := by decide +kernel
theorem d_State_cookOne_42 : decode prog_9_method_6_code 42 = .ok (.istore 5, 2) := by decide +kernel
theorem d_State_cookOne_44 : decode prog_9_method_6_code 44 = .ok (.aload_n 0, 1) := by decide +kernel
theorem d_State_cookOne_45 : decode prog_9_method_6_code 45 = .ok (.getfield 19, 3) := by decide +kernel
theorem d_State_cookOne_48 : decode prog_9_method_6_code 48 = .ok (.iload 4, 2) := by decide +kernel
theorem d_State_cookOne_50 : decode prog_9_method_6_code 50 = .ok (.aload_n 0, 1) := by decide +kernel
theorem d_State_cookOne_51 : decode prog_9_method_6_code 51 = .ok (.getfield 19, 3) := by decide +kernel
theorem d_State_cookOne_54 : decode prog_9_method_6_code 54 = .ok (.iload 4, 2) := by decide +kernel
theorem d_State_cookOne_56 : decode prog_9_method_6_code 56 = .ok (.invokestatic 53, 3) := by decide +kernel
theorem d_State_cookOne_59 : decode prog_9_method_6_code 59 = .ok (.iload 5, 2) := by decide +kernel
theorem d_State_cookOne_61 : decode prog_9_method_6_code 61 = .ok (.isub, 1) := by decide +kernel
theorem d_State_cookOne_62 : decode prog_9_method_6_code 62 = .ok (.invokestatic 57, 3) := by decide +kernel
theorem d_State_cookOne_65 : decode prog_9_method_6_code 65 = .ok (.iinc 4 1, 3) := by decide +kernel
theorem d_State_cookOne_68 : decode prog_9_method_6_code 68 = .ok (.goto (-54), 3) := by decide +kernel
theorem d_State_cookOne_71 : decode prog_9_method_6_code 71 = .ok (.iconst 0, 1) := by decide +kernel
theorem d_State_cookOne_72 : decode prog_9_method_6_code 72 = .ok (.istore 4, 2) := by decide +kernel
theorem d_State_cookOne_74 : decode prog_9_method_6_code 74 = .ok (.iload 4, 2) := by decide +kernel
theorem d_State_cookOne_76 : decode prog_9_method_6_code 76 = .ok (.iconst 3, 1) := by decide +kernel
theorem d_State_cookOne_77 : decode prog_9_method_6_code 77 = .ok (.if_icmp .ge 30, 3) := by decide +kernel
theorem d_State_cookOne_80 : decode prog_9_method_6_code 80 = .ok (.aload_n 0, 1) := by decide +kernel
theorem d_State_cookOne_81 : decode prog_9_method_6_code 81 = .ok (.getfield 15, 3) := by decide +kernel
theorem d_State_cookOne_84 : decode prog_9_method_6_code 84 = .ok (.iload 4, 2) := by decide +kernel
theorem d_State_cookOne_86 : decode prog_9_method_6_code 86 = .ok (.aload_n 1, 1) := by decide +kernel
theorem d_State_cookOne_87 : decode prog_9_method_6_code 87 = .ok (.iload_n 2, 1) := by decide +kernel
theorem d_State_cookOne_88 : decode prog_9_method_6_code 88 = .ok (.iload_n 3, 1) := by decide +kernel
theorem d_State_cookOne_89 : decode prog_9_method_6_code 89 = .ok (.iload 4, 2) := by decide +kernel
theorem d_State_cookOne_91 : decode prog_9_method_6_code 91 = .ok (.aload_n 0, 1) := by decide +kernel
theorem d_State_cookOne_92 : decode prog_9_method_6_code 92 = .ok (.getfield 34, 3) := by decide +kernel
theorem d_State_cookOne_95 : decode prog_9_method_6_code 95 = .ok (.invokevirtual 83, 3) := by decide +kernel
theorem d_State_cookOne_98 : decode prog_9_method_6_code 98 = .ok (.invokestatic 57, 3) := by decide +kernel
theorem d_State_cookOne_101 : decode prog_9_method_6_code 101 = .ok (.iinc 4 1, 3) := by decide +kernel
theorem d_State_cookOne_104 : decode prog_9_method_6_code 104 = .ok (.goto (-30), 3) := by decide +kernel
theorem d_State_cookOne_107 : decode prog_9_method_6_code 107 = .ok (.aload_n 0, 1) := by decide +kernel
theorem d_State_cookOne_108 : decode prog_9_method_6_code 108 = .ok (.dup, 1) := by decide +kernel
theorem d_State_cookOne_109 : decode prog_9_method_6_code 109 = .ok (.getfield 37, 3) := by decide +kernel
theorem d_State_cookOne_112 : decode prog_9_method_6_code 112 = .ok (.aload_n 1, 1) := by decide +kernel
theorem d_State_cookOne_113 : decode prog_9_method_6_code 113 = .ok (.iload_n 2, 1) := by decide +kernel
theorem d_State_cookOne_114 : decode prog_9_method_6_code 114 = .ok (.invokevirtual 87, 3) := by decide +kernel
theorem d_State_cookOne_117 : decode prog_9_method_6_code 117 = .ok (.iadd, 1) := by decide +kernel
theorem d_State_cookOne_118 : decode prog_9_method_6_code 118 = .ok (.putfield 37, 3) := by decide +kernel
theorem d_State_cookOne_121 : decode prog_9_method_6_code 121 = .ok (.aload_n 0, 1) := by decide +kernel
theorem d_State_cookOne_122 : decode prog_9_method_6_code 122 = .ok (.iload_n 2, 1) := by decide +kernel
theorem d_State_cookOne_123 : decode prog_9_method_6_code 123 = .ok (.putfield 9, 3) := by decide +kernel
theorem d_State_cookOne_126 : decode prog_9_method_6_code 126 = .ok (.aload_n 0, 1) := by decide +kernel
theorem d_State_cookOne_127 : decode prog_9_method_6_code 127 = .ok (.dup, 1) := by decide +kernel
theorem d_State_cookOne_128 : decode prog_9_method_6_code 128 = .ok (.getfield 40, 3) := by decide +kernel
theorem d_State_cookOne_131 : decode prog_9_method_6_code 131 = .ok (.iconst 1, 1) := by decide +kernel
theorem d_State_cookOne_132 : decode prog_9_method_6_code 132 = .ok (.iadd, 1) := by decide +kernel
theorem d_State_cookOne_133 : decode prog_9_method_6_code 133 = .ok (.putfield 40, 3) := by decide +kernel
theorem d_State_cookOne_136 : decode prog_9_method_6_code 136 = .ok (.aload_n 0, 1) := by decide +kernel
theorem d_State_cookOne_137 : decode prog_9_method_6_code 137 = .ok (.getfield 22, 3) := by decide +kernel
theorem d_State_cookOne_140 : decode prog_9_method_6_code 140 = .ok (.iload_n 2, 1) := by decide +kernel
theorem d_State_cookOne_141 : decode prog_9_method_6_code 141 = .ok (.aload_n 0, 1) := by decide +kernel
theorem d_State_cookOne_142 : decode prog_9_method_6_code 142 = .ok (.getfield 22, 3) := by decide +kernel
theorem d_State_cookOne_145 : decode prog_9_method_6_code 145 = .ok (.iload_n 2, 1) := by decide +kernel
theorem d_State_cookOne_146 : decode prog_9_method_6_code 146 = .ok (.invokestatic 53, 3) := by decide +kernel
theorem d_State_cookOne_149 : decode prog_9_method_6_code 149 = .ok (.iconst 1, 1) := by decide +kernel
theorem d_State_cookOne_150 : decode prog_9_method_6_code 150 = .ok (.iadd, 1) := by decide +kernel
theorem d_State_cookOne_151 : decode prog_9_method_6_code 151 = .ok (.invokestatic 57, 3) := by decide +kernel
theorem d_State_cookOne_154 : decode prog_9_method_6_code 154 = .ok (.iload_n 3, 1) := by decide +kernel
theorem d_State_cookOne_155 : decode prog_9_method_6_code 155 = .ok (.ireturn, 1) := by decide +kernel
theorem d_State_eatServed_0 : decode prog_9_method_7_code 0 = .ok (.iconst 0, 1) := by decide +kernel
theorem d_State_eatServed_1 : decode prog_9_method_7_code 1 = .ok (.istore_n 2, 1) := by decide +kernel
theorem d_State_eatServed_2 : decode prog_9_method_7_code 2 = .ok (.iload_n 2, 1) := by decide +kernel
theorem d_State_eatServed_3 : decode prog_9_method_7_code 3 = .ok (.iconst 3, 1) := by decide +kernel
theorem d_State_eatServed_4 : decode prog_9_method_7_code 4 = .ok (.if_icmp .ge 29, 3) := by decide +kernel
theorem d_State_eatServed_7 : decode prog_9_method_7_code 7 = .ok (.aload_n 0, 1) := by decide +kernel
theorem d_State_eatServed_8 : decode prog_9_method_7_code 8 = .ok (.getfield 31, 3) := by decide +kernel
theorem d_State_eatServed_11 : decode prog_9_method_7_code 11 = .ok (.iload_n 1, 1) := by decide +kernel
theorem d_State_eatServed_12 : decode prog_9_method_7_code 12 = .ok (.iconst 3, 1) := by decide +kernel
theorem d_State_eatServed_13 : decode prog_9_method_7_code 13 = .ok (.imul, 1) := by decide +kernel
theorem d_State_eatServed_14 : decode prog_9_method_7_code 14 = .ok (.iload_n 2, 1) := by decide +kernel
theorem d_State_eatServed_15 : decode prog_9_method_7_code 15 = .ok (.iadd, 1) := by decide +kernel
theorem d_State_eatServed_16 : decode prog_9_method_7_code 16 = .ok (.aload_n 0, 1) := by decide +kernel
theorem d_State_eatServed_17 : decode prog_9_method_7_code 17 = .ok (.getfield 15, 3) := by decide +kernel
theorem d_State_eatServed_20 : decode prog_9_method_7_code 20 = .ok (.iload_n 2, 1) := by decide +kernel
theorem d_State_eatServed_21 : decode prog_9_method_7_code 21 = .ok (.invokestatic 53, 3) := by decide +kernel
theorem d_State_eatServed_24 : decode prog_9_method_7_code 24 = .ok (.invokestatic 57, 3) := by decide +kernel
theorem d_State_eatServed_27 : decode prog_9_method_7_code 27 = .ok (.iinc 2 1, 3) := by decide +kernel
theorem d_State_eatServed_30 : decode prog_9_method_7_code 30 = .ok (.goto (-28), 3) := by decide +kernel
theorem d_State_eatServed_33 : decode prog_9_method_7_code 33 = .ok (.aload_n 0, 1) := by decide +kernel
theorem d_State_eatServed_34 : decode prog_9_method_7_code 34 = .ok (.getfield 28, 3) := by decide +kernel
theorem d_State_eatServed_37 : decode prog_9_method_7_code 37 = .ok (.iload_n 1, 1) := by decide +kernel
theorem d_State_eatServed_38 : decode prog_9_method_7_code 38 = .ok (.aload_n 0, 1) := by decide +kernel
theorem d_State_eatServed_39 : decode prog_9_method_7_code 39 = .ok (.getfield 34, 3) := by decide +kernel
theorem d_State_eatServed_42 : decode prog_9_method_7_code 42 = .ok (.invokestatic 57, 3) := by decide +kernel
theorem d_State_eatServed_45 : decode prog_9_method_7_code 45 = .ok (.aload_n 0, 1) := by decide +kernel
theorem d_State_eatServed_46 : decode prog_9_method_7_code 46 = .ok (.getfield 25, 3) := by decide +kernel
theorem d_State_eatServed_49 : decode prog_9_method_7_code 49 = .ok (.iload_n 1, 1) := by decide +kernel
theorem d_State_eatServed_50 : decode prog_9_method_7_code 50 = .ok (.aload_n 0, 1) := by decide +kernel
theorem d_State_eatServed_51 : decode prog_9_method_7_code 51 = .ok (.getfield 25, 3) := by decide +kernel
theorem d_State_eatServed_54 : decode prog_9_method_7_code 54 = .ok (.iload_n 1, 1) := by decide +kernel
theorem d_State_eatServed_55 : decode prog_9_method_7_code 55 = .ok (.invokestatic 53, 3) := by decide +kernel
theorem d_State_eatServed_58 : decode prog_9_method_7_code 58 = .ok (.iconst 1, 1) := by decide +kernel
theorem d_State_eatServed_59 : decode prog_9_method_7_code 59 = .ok (.iadd, 1) := by decide +kernel
theorem d_State_eatServed_60 : decode prog_9_method_7_code 60 = .ok (.invokestatic 57, 3) := by decide +kernel
theorem d_State_eatServed_63 : decode prog_9_method_7_code 63 = .ok (.return_, 1) := by decide +kernel
theorem d_State_passDays_0 : decode prog_9_method_8_code 0 = .ok (.iconst 0, 1) := by decide +kernel
theorem d_State_passDays_1 : decode prog_9_method_8_code 1 = .ok (.istore_n 3, 1) := by decide +kernel
theorem d_State_passDays_2 : decode prog_9_method_8_code 2 = .ok (.iload_n 3, 1) := by decide +kernel
theorem d_State_passDays_3 : decode prog_9_method_8_code 3 = .ok (.iload_n 2, 1) := by decide +kernel
theorem d_State_passDays_4 : decode prog_9_method_8_code 4 = .ok (.if_icmp .ge 78, 3) := by decide +kernel
theorem d_State_passDays_7 : decode prog_9_method_8_code 7 = .ok (.iconst 0, 1) := by decide +kernel
theorem d_State_passDays_8 : decode prog_9_method_8_code 8 = .ok (.istore 4, 2) := by decide +kernel
theorem d_State_passDays_10 : decode prog_9_method_8_code 10 = .ok (.iload 4, 2) := by decide +kernel
theorem d_State_passDays_12 : decode prog_9_method_8_code 12 = .ok (.aload_n 1, 1) := by decide +kernel
theorem d_State_passDays_13 : decode prog_9_method_8_code 13 = .ok (.getfield 47, 3) := by decide +kernel
theorem d_State_passDays_16 : decode prog_9_method_8_code 16 = .ok (.if_icmp .ge 50, 3) := by decide +kernel
theorem d_State_passDays_19 : decode prog_9_method_8_code 19 = .ok (.aload_n 0, 1) := by decide +kernel
theorem d_State_passDays_20 : decode prog_9_method_8_code 20 = .ok (.getfield 19, 3) := by decide +kernel
theorem d_State_passDays_23 : decode prog_9_method_8_code 23 = .ok (.iload 4, 2) := by decide +kernel
theorem d_State_passDays_25 : decode prog_9_method_8_code 25 = .ok (.invokestatic 53, 3) := by decide +kernel
theorem d_State_passDays_28 : decode prog_9_method_8_code 28 = .ok (.istore 5, 2) := by decide +kernel
theorem d_State_passDays_30 : decode prog_9_method_8_code 30 = .ok (.aload_n 0, 1) := by decide +kernel
theorem d_State_passDays_31 : decode prog_9_method_8_code 31 = .ok (.getfield 19, 3) := by decide +kernel
theorem d_State_passDays_34 : decode prog_9_method_8_code 34 = .ok (.iload 4, 2) := by decide +kernel
theorem d_State_passDays_36 : decode prog_9_method_8_code 36 = .ok (.iload 5, 2) := by decide +kernel
theorem d_State_passDays_38 : decode prog_9_method_8_code 38 = .ok (.aload_n 1, 1) := by decide +kernel
theorem d_State_passDays_39 : decode prog_9_method_8_code 39 = .ok (.iload 4, 2) := by decide +kernel
theorem d_State_passDays_41 : decode prog_9_method_8_code 41 = .ok (.iload 5, 2) := by decide +kernel
theorem d_State_passDays_43 : decode prog_9_method_8_code 43 = .ok (.aload_n 0, 1) := by decide +kernel
theorem d_State_passDays_44 : decode prog_9_method_8_code 44 = .ok (.getfield 34, 3) := by decide +kernel
theorem d_State_passDays_47 : decode prog_9_method_8_code 47 = .ok (.invokevirtual 91, 3) := by decide +kernel
theorem d_State_passDays_50 : decode prog_9_method_8_code 50 = .ok (.iadd, 1) := by decide +kernel
theorem d_State_passDays_51 : decode prog_9_method_8_code 51 = .ok (.iconst 0, 1) := by decide +kernel
theorem d_State_passDays_52 : decode prog_9_method_8_code 52 = .ok (.bipush 99, 2) := by decide +kernel
theorem d_State_passDays_54 : decode prog_9_method_8_code 54 = .ok (.invokestatic 94, 3) := by decide +kernel
theorem d_State_passDays_57 : decode prog_9_method_8_code 57 = .ok (.invokestatic 57, 3) := by decide +kernel
theorem d_State_passDays_60 : decode prog_9_method_8_code 60 = .ok (.iinc 4 1, 3) := by decide +kernel
theorem d_State_passDays_63 : decode prog_9_method_8_code 63 = .ok (.goto (-53), 3) := by decide +kernel
theorem d_State_passDays_66 : decode prog_9_method_8_code 66 = .ok (.aload_n 0, 1) := by decide +kernel
theorem d_State_passDays_67 : decode prog_9_method_8_code 67 = .ok (.dup, 1) := by decide +kernel
theorem d_State_passDays_68 : decode prog_9_method_8_code 68 = .ok (.getfield 34, 3) := by decide +kernel
theorem d_State_passDays_71 : decode prog_9_method_8_code 71 = .ok (.iconst 1, 1) := by decide +kernel
theorem d_State_passDays_72 : decode prog_9_method_8_code 72 = .ok (.iadd, 1) := by decide +kernel
theorem d_State_passDays_73 : decode prog_9_method_8_code 73 = .ok (.putfield 34, 3) := by decide +kernel
theorem d_State_passDays_76 : decode prog_9_method_8_code 76 = .ok (.iinc 3 1, 3) := by decide +kernel
theorem d_State_passDays_79 : decode prog_9_method_8_code 79 = .ok (.goto (-77), 3) := by decide +kernel
theorem d_State_passDays_82 : decode prog_9_method_8_code 82 = .ok (.return_, 1) := by decide +kernel
theorem d_State_hasEaten_0 : decode prog_9_method_9_code 0 = .ok (.aload_n 0, 1) := by decide +kernel
theorem d_State_hasEaten_1 : decode prog_9_method_9_code 1 = .ok (.getfield 25, 3) := by decide +kernel
theorem d_State_hasEaten_4 : decode prog_9_method_9_code 4 = .ok (.iload_n 1, 1) := by decide +kernel
theorem d_State_hasEaten_5 : decode prog_9_method_9_code 5 = .ok (.invokestatic 53, 3) := by decide +kernel
theorem d_State_hasEaten_8 : decode prog_9_method_9_code 8 = .ok (.ifCond .le 7, 3) := by decide +kernel
theorem d_State_hasEaten_11 : decode prog_9_method_9_code 11 = .ok (.iconst 1, 1) := by decide +kernel
theorem d_State_hasEaten_12 : decode prog_9_method_9_code 12 = .ok (.goto 4, 3) := by decide +kernel
theorem d_State_hasEaten_15 : decode prog_9_method_9_code 15 = .ok (.iconst 0, 1) := by decide +kernel
theorem d_State_hasEaten_16 : decode prog_9_method_9_code 16 = .ok (.ireturn, 1) := by decide +kernel
theorem d_State_agoOf_0 : decode prog_9_method_10_code 0 = .ok (.aload_n 0, 1) := by decide +kernel
theorem d_State_agoOf_1 : decode prog_9_method_10_code 1 = .ok (.getfield 34, 3) := by decide +kernel
theorem d_State_agoOf_4 : decode prog_9_method_10_code 4 = .ok (.aload_n 0, 1) := by decide +kernel
theorem d_State_agoOf_5 : decode prog_9_method_10_code 5 = .ok (.getfield 28, 3) := by decide +kernel
theorem d_State_agoOf_8 : decode prog_9_method_10_code 8 = .ok (.iload_n 1, 1) := by decide +kernel
theorem d_State_agoOf_9 : decode prog_9_method_10_code 9 = .ok (.invokestatic 53, 3) := by decide +kernel
theorem d_State_agoOf_12 : decode prog_9_method_10_code 12 = .ok (.isub, 1) := by decide +kernel
theorem d_State_agoOf_13 : decode prog_9_method_10_code 13 = .ok (.ireturn, 1) := by decide +kernel
theorem d_State_boundOf_0 : decode prog_9_method_11_code 0 = .ok (.aload_n 0, 1) := by decide +kernel
theorem d_State_boundOf_1 : decode prog_9_method_11_code 1 = .ok (.iload_n 2, 1) := by decide +kernel
theorem d_State_boundOf_2 : decode prog_9_method_11_code 2 = .ok (.invokevirtual 97, 3) := by decide +kernel
theorem d_State_boundOf_5 : decode prog_9_method_11_code 5 = .ok (.ifCond .ne 5, 3) := by decide +kernel
theorem d_State_boundOf_8 : decode prog_9_method_11_code 8 = .ok (.iconst 0, 1) := by decide +kernel
theorem d_State_boundOf_9 : decode prog_9_method_11_code 9 = .ok (.ireturn, 1) := by decide +kernel
theorem d_State_boundOf_10 : decode prog_9_method_11_code 10 = .ok (.aload_n 1, 1) := by decide +kernel
theorem d_State_boundOf_11 : decode prog_9_method_11_code 11 = .ok (.iload_n 2, 1) := by decide +kernel
theorem d_State_boundOf_12 : decode prog_9_method_11_code 12 = .ok (.iload_n 3, 1) := by decide +kernel
theorem d_State_boundOf_13 : decode prog_9_method_11_code 13 = .ok (.aload_n 0, 1) := by decide +kernel
theorem d_State_boundOf_14 : decode prog_9_method_11_code 14 = .ok (.getfield 31, 3) := by decide +kernel
theorem d_State_boundOf_17 : decode prog_9_method_11_code 17 = .ok (.iload_n 2, 1) := by decide +kernel
theorem d_State_boundOf_18 : decode prog_9_method_11_code 18 = .ok (.iconst 3, 1) := by decide +kernel
theorem d_State_boundOf_19 : decode prog_9_method_11_code 19 = .ok (.imul, 1) := by decide +kernel
theorem d_State_boundOf_20 : decode prog_9_method_11_code 20 = .ok (.iload_n 3, 1) := by decide +kernel
theorem d_State_boundOf_21 : decode prog_9_method_11_code 21 = .ok (.iadd, 1) := by decide +kernel
theorem d_State_boundOf_22 : decode prog_9_method_11_code 22 = .ok (.invokestatic 53, 3) := by decide +kernel
theorem d_State_boundOf_25 : decode prog_9_method_11_code 25 = .ok (.aload_n 0, 1) := by decide +kernel
theorem d_State_boundOf_26 : decode prog_9_method_11_code 26 = .ok (.iload_n 2, 1) := by decide +kernel
theorem d_State_boundOf_27 : decode prog_9_method_11_code 27 = .ok (.invokevirtual 101, 3) := by decide +kernel
theorem d_State_boundOf_30 : decode prog_9_method_11_code 30 = .ok (.iload 4, 2) := by decide +kernel
theorem d_State_boundOf_32 : decode prog_9_method_11_code 32 = .ok (.iadd, 1) := by decide +kernel
theorem d_State_boundOf_33 : decode prog_9_method_11_code 33 = .ok (.aload_n 0, 1) := by decide +kernel
theorem d_State_boundOf_34 : decode prog_9_method_11_code 34 = .ok (.getfield 34, 3) := by decide +kernel
theorem d_State_boundOf_37 : decode prog_9_method_11_code 37 = .ok (.iload 4, 2) := by decide +kernel
theorem d_State_boundOf_39 : decode prog_9_method_11_code 39 = .ok (.iadd, 1) := by decide +kernel
theorem d_State_boundOf_40 : decode prog_9_method_11_code 40 = .ok (.invokevirtual 104, 3) := by decide +kernel
theorem d_State_boundOf_43 : decode prog_9_method_11_code 43 = .ok (.ireturn, 1) := by decide +kernel
theorem d_State_freeOf_0 : decode prog_9_method_12_code 0 = .ok (.iconst 0, 1) := by decide +kernel
theorem d_State_freeOf_1 : decode prog_9_method_12_code 1 = .ok (.istore 4, 2) := by decide +kernel
theorem d_State_freeOf_3 : decode prog_9_method_12_code 3 = .ok (.iconst 0, 1) := by decide +kernel
theorem d_State_freeOf_4 : decode prog_9_method_12_code 4 = .ok (.istore 5, 2) := by decide +kernel
theorem d_State_freeOf_6 : decode prog_9_method_12_code 6 = .ok (.iload 5, 2) := by decide +kernel
theorem d_State_freeOf_8 : decode prog_9_method_12_code 8 = .ok (.iconst 3, 1) := by decide +kernel
theorem d_State_freeOf_9 : decode prog_9_method_12_code 9 = .ok (.if_icmp .ge 29, 3) := by decide +kernel
theorem d_State_freeOf_12 : decode prog_9_method_12_code 12 = .ok (.iload 4, 2) := by decide +kernel
theorem d_State_freeOf_14 : decode prog_9_method_12_code 14 = .ok (.aload_n 1, 1) := by decide +kernel
theorem d_State_freeOf_15 : decode prog_9_method_12_code 15 = .ok (.iload 5, 2) := by decide +kernel
theorem d_State_freeOf_17 : decode prog_9_method_12_code 17 = .ok (.aload_n 0, 1) := by decide +kernel
theorem d_State_freeOf_18 : decode prog_9_method_12_code 18 = .ok (.aload_n 1, 1) := by decide +kernel
theorem d_State_freeOf_19 : decode prog_9_method_12_code 19 = .ok (.iload_n 2, 1) := by decide +kernel
theorem d_State_freeOf_20 : decode prog_9_method_12_code 20 = .ok (.iload 5, 2) := by decide +kernel
theorem d_State_freeOf_22 : decode prog_9_method_12_code 22 = .ok (.iload_n 3, 1) := by decide +kernel
theorem d_State_freeOf_23 : decode prog_9_method_12_code 23 = .ok (.invokevirtual 108, 3) := by decide +kernel
theorem d_State_freeOf_26 : decode prog_9_method_12_code 26 = .ok (.invokevirtual 112, 3) := by decide +kernel
theorem d_State_freeOf_29 : decode prog_9_method_12_code 29 = .ok (.ior, 1) := by decide +kernel
theorem d_State_freeOf_30 : decode prog_9_method_12_code 30 = .ok (.istore 4, 2) := by decide +kernel
theorem d_State_freeOf_32 : decode prog_9_method_12_code 32 = .ok (.iinc 5 1, 3) := by decide +kernel
theorem d_State_freeOf_35 : decode prog_9_method_12_code 35 = .ok (.goto (-29), 3) := by decide +kernel
theorem d_State_freeOf_38 : decode prog_9_method_12_code 38 = .ok (.iload 4, 2) := by decide +kernel
theorem d_State_freeOf_40 : decode prog_9_method_12_code 40 = .ok (.ireturn, 1) := by decide +kernel
theorem d_State_allMeals_0 : decode prog_9_method_13_code 0 = .ok (.iconst 0, 1) := by decide +kernel
theorem d_State_allMeals_1 : decode prog_9_method_13_code 1 = .ok (.istore_n 1, 1) := by decide +kernel
theorem d_State_allMeals_2 : decode prog_9_method_13_code 2 = .ok (.iconst 0, 1) := by decide +kernel
theorem d_State_allMeals_3 : decode prog_9_method_13_code 3 = .ok (.istore_n 2, 1) := by decide +kernel
theorem d_State_allMeals_4 : decode prog_9_method_13_code 4 = .ok (.iload_n 2, 1) := by decide +kernel
theorem d_State_allMeals_5 : decode prog_9_method_13_code 5 = .ok (.iconst 4, 1) := by decide +kernel
theorem d_State_allMeals_6 : decode prog_9_method_13_code 6 = .ok (.if_icmp .ge 20, 3) := by decide +kernel
theorem d_State_allMeals_9 : decode prog_9_method_13_code 9 = .ok (.iload_n 1, 1) := by decide +kernel
theorem d_State_allMeals_10 : decode prog_9_method_13_code 10 = .ok (.aload_n 0, 1) := by decide +kernel
theorem d_State_allMeals_11 : decode prog_9_method_13_code 11 = .ok (.getfield 25, 3) := by decide +kernel
theorem d_State_allMeals_14 : decode prog_9_method_13_code 14 = .ok (.iload_n 2, 1) := by decide +kernel
theorem d_State_allMeals_15 : decode prog_9_method_13_code 15 = .ok (.invokestatic 53, 3) := by decide +kernel
theorem d_State_allMeals_18 : decode prog_9_method_13_code 18 = .ok (.iadd, 1) := by decide +kernel
theorem d_State_allMeals_19 : decode prog_9_method_13_code 19 = .ok (.istore_n 1, 1) := by decide +kernel
theorem d_State_allMeals_20 : decode prog_9_method_13_code 20 = .ok (.iinc 2 1, 3) := by decide +kernel
theorem d_State_allMeals_23 : decode prog_9_method_13_code 23 = .ok (.goto (-19), 3) := by decide +kernel
theorem d_State_allMeals_26 : decode prog_9_method_13_code 26 = .ok (.iload_n 1, 1) := by decide +kernel
theorem d_State_allMeals_27 : decode prog_9_method_13_code 27 = .ok (.ireturn, 1) := by decide +kernel
theorem d_Tape_init_0 : decode prog_10_method_1_code 0 = .ok (.aload_n 0, 1) := by decide +kernel
theorem d_Tape_init_1 : decode prog_10_method_1_code 1 = .ok (.invokespecial 3, 3) := by decide +kernel
theorem d_Tape_init_4 : decode prog_10_method_1_code 4 = .ok (.aload_n 0, 1) := by decide +kernel
theorem d_Tape_init_5 : decode prog_10_method_1_code 5 = .ok (.sipush 2000, 3) := by decide +kernel
theorem d_Tape_init_8 : decode prog_10_method_1_code 8 = .ok (.newarray .int, 2) := by decide +kernel
theorem d_Tape_init_10 : decode prog_10_method_1_code 10 = .ok (.putfield 9, 3) := by decide +kernel
theorem d_Tape_init_13 : decode prog_10_method_1_code 13 = .ok (.return_, 1) := by decide +kernel
theorem d_Tape_write_0 : decode prog_10_method_2_code 0 = .ok (.bipush 24, 2) := by decide +kernel
theorem d_Tape_write_2 : decode prog_10_method_2_code 2 = .ok (.istore_n 2, 1) := by decide +kernel
theorem d_Tape_write_3 : decode prog_10_method_2_code 3 = .ok (.iload_n 2, 1) := by decide +kernel
theorem d_Tape_write_4 : decode prog_10_method_2_code 4 = .ok (.ifCond .lt 37, 3) := by decide +kernel
theorem d_Tape_write_7 : decode prog_10_method_2_code 7 = .ok (.aload_n 0, 1) := by decide +kernel
theorem d_Tape_write_8 : decode prog_10_method_2_code 8 = .ok (.getfield 9, 3) := by decide +kernel
theorem d_Tape_write_11 : decode prog_10_method_2_code 11 = .ok (.aload_n 0, 1) := by decide +kernel
theorem d_Tape_write_12 : decode prog_10_method_2_code 12 = .ok (.getfield 15, 3) := by decide +kernel
theorem d_Tape_write_15 : decode prog_10_method_2_code 15 = .ok (.iload_n 1, 1) := by decide +kernel
theorem d_Tape_write_16 : decode prog_10_method_2_code 16 = .ok (.iload_n 2, 1) := by decide +kernel
theorem d_Tape_write_17 : decode prog_10_method_2_code 17 = .ok (.iushr, 1) := by decide +kernel
theorem d_Tape_write_18 : decode prog_10_method_2_code 18 = .ok (.sipush 255, 3) := by decide +kernel
theorem d_Tape_write_21 : decode prog_10_method_2_code 21 = .ok (.iand, 1) := by decide +kernel
theorem d_Tape_write_22 : decode prog_10_method_2_code 22 = .ok (.invokestatic 19, 3) := by decide +kernel
theorem d_Tape_write_25 : decode prog_10_method_2_code 25 = .ok (.aload_n 0, 1) := by decide +kernel
theorem d_Tape_write_26 : decode prog_10_method_2_code 26 = .ok (.dup, 1) := by decide +kernel
theorem d_Tape_write_27 : decode prog_10_method_2_code 27 = .ok (.getfield 15, 3) := by decide +kernel
theorem d_Tape_write_30 : decode prog_10_method_2_code 30 = .ok (.iconst 1, 1) := by decide +kernel
theorem d_Tape_write_31 : decode prog_10_method_2_code 31 = .ok (.iadd, 1) := by decide +kernel
theorem d_Tape_write_32 : decode prog_10_method_2_code 32 = .ok (.putfield 15, 3) := by decide +kernel
theorem d_Tape_write_35 : decode prog_10_method_2_code 35 = .ok (.iinc 2 (-8), 3) := by decide +kernel
theorem d_Tape_write_38 : decode prog_10_method_2_code 38 = .ok (.goto (-35), 3) := by decide +kernel
theorem d_Tape_write_41 : decode prog_10_method_2_code 41 = .ok (.return_, 1) := by decide +kernel
theorem d_Tape_byteAt_0 : decode prog_10_method_3_code 0 = .ok (.iload_n 1, 1) := by decide +kernel
theorem d_Tape_byteAt_1 : decode prog_10_method_3_code 1 = .ok (.ifCond .lt 29, 3) := by decide +kernel
theorem d_Tape_byteAt_4 : decode prog_10_method_3_code 4 = .ok (.iload_n 1, 1) := by decide +kernel
theorem d_Tape_byteAt_5 : decode prog_10_method_3_code 5 = .ok (.aload_n 0, 1) := by decide +kernel
theorem d_Tape_byteAt_6 : decode prog_10_method_3_code 6 = .ok (.getfield 15, 3) := by decide +kernel
theorem d_Tape_byteAt_9 : decode prog_10_method_3_code 9 = .ok (.if_icmp .ge 21, 3) := by decide +kernel
theorem d_Tape_byteAt_12 : decode prog_10_method_3_code 12 = .ok (.iload_n 1, 1) := by decide +kernel
theorem d_Tape_byteAt_13 : decode prog_10_method_3_code 13 = .ok (.aload_n 0, 1) := by decide +kernel
theorem d_Tape_byteAt_14 : decode prog_10_method_3_code 14 = .ok (.getfield 9, 3) := by decide +kernel
theorem d_Tape_byteAt_17 : decode prog_10_method_3_code 17 = .ok (.arraylength, 1) := by decide +kernel
theorem d_Tape_byteAt_18 : decode prog_10_method_3_code 18 = .ok (.if_icmp .ge 12, 3) := by decide +kernel
theorem d_Tape_byteAt_21 : decode prog_10_method_3_code 21 = .ok (.aload_n 0, 1) := by decide +kernel
theorem d_Tape_byteAt_22 : decode prog_10_method_3_code 22 = .ok (.getfield 9, 3) := by decide +kernel
theorem d_Tape_byteAt_25 : decode prog_10_method_3_code 25 = .ok (.iload_n 1, 1) := by decide +kernel
theorem d_Tape_byteAt_26 : decode prog_10_method_3_code 26 = .ok (.iaload, 1) := by decide +kernel
theorem d_Tape_byteAt_27 : decode prog_10_method_3_code 27 = .ok (.goto 4, 3) := by decide +kernel
theorem d_Tape_byteAt_30 : decode prog_10_method_3_code 30 = .ok (.iconst (-1), 1) := by decide +kernel
theorem d_Tape_byteAt_31 : decode prog_10_method_3_code 31 = .ok (.ireturn, 1) := by decide +kernel
theorem d_Tokens_init_0 : decode prog_11_method_1_code 0 = .ok (.aload_n 0, 1) := by decide +kernel
theorem d_Tokens_init_1 : decode prog_11_method_1_code 1 = .ok (.invokespecial 3, 3) := by decide +kernel
theorem d_Tokens_init_4 : decode prog_11_method_1_code 4 = .ok (.aload_n 0, 1) := by decide +kernel
theorem d_Tokens_init_5 : decode prog_11_method_1_code 5 = .ok (.bipush 21, 2) := by decide +kernel
theorem d_Tokens_init_7 : decode prog_11_method_1_code 7 = .ok (.newarray .long, 2) := by decide +kernel
theorem d_Tokens_init_9 : decode prog_11_method_1_code 9 = .ok (.putfield 9, 3) := by decide +kernel
theorem d_Tokens_init_12 : decode prog_11_method_1_code 12 = .ok (.aload_n 0, 1) := by decide +kernel
theorem d_Tokens_init_13 : decode prog_11_method_1_code 13 = .ok (.sipush 401, 3) := by decide +kernel
theorem d_Tokens_init_16 : decode prog_11_method_1_code 16 = .ok (.newarray .int, 2) := by decide +kernel
theorem d_Tokens_init_18 : decode prog_11_method_1_code 18 = .ok (.putfield 15, 3) := by decide +kernel
theorem d_Tokens_init_21 : decode prog_11_method_1_code 21 = .ok (.aload_n 0, 1) := by decide +kernel
theorem d_Tokens_init_22 : decode prog_11_method_1_code 22 = .ok (.sipush 401, 3) := by decide +kernel
theorem d_Tokens_init_25 : decode prog_11_method_1_code 25 = .ok (.newarray .int, 2) := by decide +kernel
theorem d_Tokens_init_27 : decode prog_11_method_1_code 27 = .ok (.putfield 19, 3) := by decide +kernel
theorem d_Tokens_init_30 : decode prog_11_method_1_code 30 = .ok (.aload_n 0, 1) := by decide +kernel
theorem d_Tokens_init_31 : decode prog_11_method_1_code 31 = .ok (.sipush 401, 3) := by decide +kernel
theorem d_Tokens_init_34 : decode prog_11_method_1_code 34 = .ok (.newarray .long, 2) := by decide +kernel
theorem d_Tokens_init_36 : decode prog_11_method_1_code 36 = .ok (.putfield 22, 3) := by decide +kernel
theorem d_Tokens_init_39 : decode prog_11_method_1_code 39 = .ok (.iconst 0, 1) := by decide +kernel
theorem d_Tokens_init_40 : decode prog_11_method_1_code 40 = .ok (.istore_n 1, 1) := by decide +kernel
theorem d_Tokens_init_41 : decode prog_11_method_1_code 41 = .ok (.iconst 0, 1) := by decide +kernel
theorem d_Tokens_init_42 : decode prog_11_method_1_code 42 = .ok (.istore_n 2, 1) := by decide +kernel
theorem d_Tokens_init_43 : decode prog_11_method_1_code 43 = .ok (.iload_n 2, 1) := by decide +kernel
theorem d_Tokens_init_44 : decode prog_11_method_1_code 44 = .ok (.ldc 25, 2) := by decide +kernel
theorem d_Tokens_init_46 : decode prog_11_method_1_code 46 = .ok (.invokevirtual 27, 3) := by decide +kernel
theorem d_Tokens_init_49 : decode prog_11_method_1_code 49 = .ok (.if_icmp .ge 53, 3) := by decide +kernel
theorem d_Tokens_init_52 : decode prog_11_method_1_code 52 = .ok (.ldc 25, 2) := by decide +kernel
theorem d_Tokens_init_54 : decode prog_11_method_1_code 54 = .ok (.iload_n 2, 1) := by decide +kernel
theorem d_Tokens_init_55 : decode prog_11_method_1_code 55 = .ok (.invokevirtual 33, 3) := by decide +kernel
theorem d_Tokens_init_58 : decode prog_11_method_1_code 58 = .ok (.istore_n 3, 1) := by decide +kernel
theorem d_Tokens_init_59 : decode prog_11_method_1_code 59 = .ok (.iload_n 3, 1) := by decide +kernel
theorem d_Tokens_init_60 : decode prog_11_method_1_code 60 = .ok (.bipush 32, 2) := by decide +kernel
theorem d_Tokens_init_62 : decode prog_11_method_1_code 62 = .ok (.if_icmp .ne 9, 3) := by decide +kernel
theorem d_Tokens_init_65 : decode prog_11_method_1_code 65 = .ok (.iinc 1 1, 3) := by decide +kernel
theorem d_Tokens_init_68 : decode prog_11_method_1_code 68 = .ok (.goto 28, 3) := by decide +kernel
theorem d_Tokens_init_71 : decode prog_11_method_1_code 71 = .ok (.iload_n 1, 1) := by decide +kernel
theorem d_Tokens_init_72 : decode prog_11_method_1_code 72 = .ok (.aload_n 0, 1) := by decide +kernel
theorem d_Tokens_init_73 : decode prog_11_method_1_code 73 = .ok (.getfield 9, 3) := by decide +kernel
theorem d_Tokens_init_76 : decode prog_11_method_1_code 76 = .ok (.arraylength, 1) := by decide +kernel
theorem d_Tokens_init_77 : decode prog_11_method_1_code 77 = .ok (.if_icmp .ge 19, 3) := by decide +kernel
theorem d_Tokens_init_80 : decode prog_11_method_1_code 80 = .ok (.aload_n 0, 1) := by decide +kernel
theorem d_Tokens_init_81 : decode prog_11_method_1_code 81 = .ok (.getfield 9, 3) := by decide +kernel
theorem d_Tokens_init_84 : decode prog_11_method_1_code 84 = .ok (.iload_n 1, 1) := by decide +kernel
theorem d_Tokens_init_85 : decode prog_11_method_1_code 85 = .ok (.aload_n 0, 1) := by decide +kernel
theorem d_Tokens_init_86 : decode prog_11_method_1_code 86 = .ok (.getfield 9, 3) := by decide +kernel
theorem d_Tokens_init_89 : decode prog_11_method_1_code 89 = .ok (.iload_n 1, 1) := by decide +kernel
theorem d_Tokens_init_90 : decode prog_11_method_1_code 90 = .ok (.laload, 1) := by decide +kernel
theorem d_Tokens_init_91 : decode prog_11_method_1_code 91 = .ok (.iload_n 3, 1) := by decide +kernel
theorem d_Tokens_init_92 : decode prog_11_method_1_code 92 = .ok (.invokestatic 37, 3) := by decide +kernel
theorem d_Tokens_init_95 : decode prog_11_method_1_code 95 = .ok (.lastore, 1) := by decide +kernel
theorem d_Tokens_init_96 : decode prog_11_method_1_code 96 = .ok (.iinc 2 1, 3) := by decide +kernel
theorem d_Tokens_init_99 : decode prog_11_method_1_code 99 = .ok (.goto (-56), 3) := by decide +kernel
theorem d_Tokens_init_102 : decode prog_11_method_1_code 102 = .ok (.return_, 1) := by decide +kernel
theorem d_Tokens_withLetter_0 : decode prog_11_method_2_code 0 = .ok (.lload_n 0, 1) := by decide +kernel
theorem d_Tokens_withLetter_1 : decode prog_11_method_2_code 1 = .ok (.ldc2_w 41, 3) := by decide +kernel
theorem d_Tokens_withLetter_4 : decode prog_11_method_2_code 4 = .ok (.lmul, 1) := by decide +kernel
theorem d_Tokens_withLetter_5 : decode prog_11_method_2_code 5 = .ok (.iload_n 2, 1) := by decide +kernel
theorem d_Tokens_withLetter_6 : decode prog_11_method_2_code 6 = .ok (.bipush 97, 2) := by decide +kernel
theorem d_Tokens_withLetter_8 : decode prog_11_method_2_code 8 = .ok (.isub, 1) := by decide +kernel
theorem d_Tokens_withLetter_9 : decode prog_11_method_2_code 9 = .ok (.iconst 1, 1) := by decide +kernel
theorem d_Tokens_withLetter_10 : decode prog_11_method_2_code 10 = .ok (.iadd, 1) := by decide +kernel
theorem d_Tokens_withLetter_11 : decode prog_11_method_2_code 11 = .ok (.i2l, 1) := by decide +kernel
theorem d_Tokens_withLetter_12 : decode prog_11_method_2_code 12 = .ok (.ladd, 1) := by decide +kernel
theorem d_Tokens_withLetter_13 : decode prog_11_method_2_code 13 = .ok (.lreturn, 1) := by decide +kernel
theorem d_Tokens_cut_0 : decode prog_11_method_3_code 0 = .ok (.iconst 0, 1) := by decide +kernel
theorem d_Tokens_cut_1 : decode prog_11_method_3_code 1 = .ok (.istore_n 2, 1) := by decide +kernel
theorem d_Tokens_cut_2 : decode prog_11_method_3_code 2 = .ok (.iconst 0, 1) := by decide +kernel
theorem d_Tokens_cut_3 : decode prog_11_method_3_code 3 = .ok (.istore_n 3, 1) := by decide +kernel
theorem d_Tokens_cut_4 : decode prog_11_method_3_code 4 = .ok (.iload_n 3, 1) := by decide +kernel
theorem d_Tokens_cut_5 : decode prog_11_method_3_code 5 = .ok (.aload_n 0, 1) := by decide +kernel
theorem d_Tokens_cut_6 : decode prog_11_method_3_code 6 = .ok (.getfield 15, 3) := by decide +kernel
theorem d_Tokens_cut_9 : decode prog_11_method_3_code 9 = .ok (.arraylength, 1) := by decide +kernel
theorem d_Tokens_cut_10 : decode prog_11_method_3_code 10 = .ok (.if_icmp .ge 57, 3) := by decide +kernel
theorem d_Tokens_cut_13 : decode prog_11_method_3_code 13 = .ok (.aload_n 1, 1) := by decide +kernel
theorem d_Tokens_cut_14 : decode prog_11_method_3_code 14 = .ok (.iload_n 2, 1) := by decide +kernel
theorem d_Tokens_cut_15 : decode prog_11_method_3_code 15 = .ok (.invokestatic 43, 3) := by decide +kernel
theorem d_Tokens_cut_18 : decode prog_11_method_3_code 18 = .ok (.istore 4, 2) := by decide +kernel
theorem d_Tokens_cut_20 : decode prog_11_method_3_code 20 = .ok (.aload_n 0, 1) := by decide +kernel
theorem d_Tokens_cut_21 : decode prog_11_method_3_code 21 = .ok (.aload_n 1, 1) := by decide +kernel
theorem d_Tokens_cut_22 : decode prog_11_method_3_code 22 = .ok (.iload 4, 2) := by decide +kernel
theorem d_Tokens_cut_24 : decode prog_11_method_3_code 24 = .ok (.iload_n 3, 1) := by decide +kernel
theorem d_Tokens_cut_25 : decode prog_11_method_3_code 25 = .ok (.invokevirtual 47, 3) := by decide +kernel
theorem d_Tokens_cut_28 : decode prog_11_method_3_code 28 = .ok (.istore_n 2, 1) := by decide +kernel
theorem d_Tokens_cut_29 : decode prog_11_method_3_code 29 = .ok (.aload_n 0, 1) := by decide +kernel
theorem d_Tokens_cut_30 : decode prog_11_method_3_code 30 = .ok (.getfield 19, 3) := by decide +kernel
theorem d_Tokens_cut_33 : decode prog_11_method_3_code 33 = .ok (.iload_n 3, 1) := by decide +kernel
theorem d_Tokens_cut_34 : decode prog_11_method_3_code 34 = .ok (.iload 4, 2) := by decide +kernel
theorem d_Tokens_cut_36 : decode prog_11_method_3_code 36 = .ok (.invokestatic 51, 3) := by decide +kernel
theorem d_Tokens_cut_39 : decode prog_11_method_3_code 39 = .ok (.aload_n 0, 1) := by decide +kernel
theorem d_Tokens_cut_40 : decode prog_11_method_3_code 40 = .ok (.getfield 15, 3) := by decide +kernel
theorem d_Tokens_cut_43 : decode prog_11_method_3_code 43 = .ok (.iload_n 3, 1) := by decide +kernel
theorem d_Tokens_cut_44 : decode prog_11_method_3_code 44 = .ok (.iaload, 1) := by decide +kernel
theorem d_Tokens_cut_45 : decode prog_11_method_3_code 45 = .ok (.ifCond .eq 22, 3) := by decide +kernel
theorem d_Tokens_cut_48 : decode prog_11_method_3_code 48 = .ok (.aload_n 0, 1) := by decide +kernel
theorem d_Tokens_cut_49 : decode prog_11_method_3_code 49 = .ok (.getfield 15, 3) := by decide +kernel
theorem d_Tokens_cut_52 : decode prog_11_method_3_code 52 = .ok (.iload_n 3, 1) := by decide +kernel
theorem d_Tokens_cut_53 : decode prog_11_method_3_code 53 = .ok (.iaload, 1) := by decide +kernel
theorem d_Tokens_cut_54 : decode prog_11_method_3_code 54 = .ok (.iconst 1, 1) := by decide +kernel
theorem d_Tokens_cut_55 : decode prog_11_method_3_code 55 = .ok (.if_icmp .ne 6, 3) := by decide +kernel
theorem d_Tokens_cut_58 : decode prog_11_method_3_code 58 = .ok (.goto 9, 3) := by decide +kernel
theorem d_Tokens_cut_61 : decode prog_11_method_3_code 61 = .ok (.iinc 3 1, 3) := by decide +kernel
theorem d_Tokens_cut_64 : decode prog_11_method_3_code 64 = .ok (.goto (-60), 3) := by decide +kernel
theorem d_Tokens_cut_67 : decode prog_11_method_3_code 67 = .ok (.return_, 1) := by decide +kernel
theorem d_Tokens_behindBlanks_0 : decode prog_11_method_4_code 0 = .ok (.iload_n 1, 1) := by decide +kernel
theorem d_Tokens_behindBlanks_1 : decode prog_11_method_4_code 1 = .ok (.istore_n 2, 1) := by decide +kernel
theorem d_Tokens_behindBlanks_2 : decode prog_11_method_4_code 2 = .ok (.iload_n 2, 1) := by decide +kernel
theorem d_Tokens_behindBlanks_3 : decode prog_11_method_4_code 3 = .ok (.aload_n 0, 1) := by decide +kernel
theorem d_Tokens_behindBlanks_4 : decode prog_11_method_4_code 4 = .ok (.getfield 55, 3) := by decide +kernel
theorem d_Tokens_behindBlanks_7 : decode prog_11_method_4_code 7 = .ok (.if_icmp .ge 20, 3) := by decide +kernel
theorem d_Tokens_behindBlanks_10 : decode prog_11_method_4_code 10 = .ok (.aload_n 0, 1) := by decide +kernel
theorem d_Tokens_behindBlanks_11 : decode prog_11_method_4_code 11 = .ok (.iload_n 2, 1) := by decide +kernel
theorem d_Tokens_behindBlanks_12 : decode prog_11_method_4_code 12 = .ok (.invokevirtual 60, 3) := by decide +kernel
theorem d_Tokens_behindBlanks_15 : decode prog_11_method_4_code 15 = .ok (.invokestatic 64, 3) := by decide +kernel
theorem d_Tokens_behindBlanks_18 : decode prog_11_method_4_code 18 = .ok (.ifCond .eq 9, 3) := by decide +kernel
theorem d_Tokens_behindBlanks_21 : decode prog_11_method_4_code 21 = .ok (.iinc 2 1, 3) := by decide +kernel
theorem d_Tokens_behindBlanks_24 : decode prog_11_method_4_code 24 = .ok (.goto (-22), 3) := by decide +kernel
theorem d_Tokens_behindBlanks_27 : decode prog_11_method_4_code 27 = .ok (.iload_n 2, 1) := by decide +kernel
theorem d_Tokens_behindBlanks_28 : decode prog_11_method_4_code 28 = .ok (.ireturn, 1) := by decide +kernel
theorem d_Tokens_isBlank_0 : decode prog_11_method_5_code 0 = .ok (.iload_n 0, 1) := by decide +kernel
theorem d_Tokens_isBlank_1 : decode prog_11_method_5_code 1 = .ok (.bipush 9, 2) := by decide +kernel
theorem d_Tokens_isBlank_3 : decode prog_11_method_5_code 3 = .ok (.if_icmp .eq 21, 3) := by decide +kernel
theorem d_Tokens_isBlank_6 : decode prog_11_method_5_code 6 = .ok (.iload_n 0, 1) := by decide +kernel
theorem d_Tokens_isBlank_7 : decode prog_11_method_5_code 7 = .ok (.bipush 10, 2) := by decide +kernel
theorem d_Tokens_isBlank_9 : decode prog_11_method_5_code 9 = .ok (.if_icmp .eq 15, 3) := by decide +kernel
theorem d_Tokens_isBlank_12 : decode prog_11_method_5_code 12 = .ok (.iload_n 0, 1) := by decide +kernel
theorem d_Tokens_isBlank_13 : decode prog_11_method_5_code 13 = .ok (.bipush 13, 2) := by decide +kernel
theorem d_Tokens_isBlank_15 : decode prog_11_method_5_code 15 = .ok (.if_icmp .eq 9, 3) := by decide +kernel
theorem d_Tokens_isBlank_18 : decode prog_11_method_5_code 18 = .ok (.iload_n 0, 1) := by decide +kernel
theorem d_Tokens_isBlank_19 : decode prog_11_method_5_code 19 = .ok (.bipush 32, 2) := by decide +kernel
theorem d_Tokens_isBlank_21 : decode prog_11_method_5_code 21 = .ok (.if_icmp .ne 7, 3) := by decide +kernel
theorem d_Tokens_isBlank_24 : decode prog_11_method_5_code 24 = .ok (.iconst 1, 1) := by decide +kernel
theorem d_Tokens_isBlank_25 : decode prog_11_method_5_code 25 = .ok (.goto 4, 3) := by decide +kernel
theorem d_Tokens_isBlank_28 : decode prog_11_method_5_code 28 = .ok (.iconst 0, 1) := by decide +kernel
theorem d_Tokens_isBlank_29 : decode prog_11_method_5_code 29 = .ok (.ireturn, 1) := by decide +kernel
theorem d_Tokens_cutOne_0 : decode prog_11_method_6_code 0 = .ok (.aload_n 1, 1) := by decide +kernel
theorem d_Tokens_cutOne_1 : decode prog_11_method_6_code 1 = .ok (.iload_n 2, 1) := by decide +kernel
theorem d_Tokens_cutOne_2 : decode prog_11_method_6_code 2 = .ok (.invokevirtual 60, 3) := by decide +kernel
theorem d_Tokens_cutOne_5 : decode prog_11_method_6_code 5 = .ok (.istore 4, 2) := by decide +kernel
theorem d_Tokens_cutOne_7 : decode prog_11_method_6_code 7 = .ok (.iload 4, 2) := by decide +kernel
theorem d_Tokens_cutOne_9 : decode prog_11_method_6_code 9 = .ok (.bipush 97, 2) := by decide +kernel
theorem d_Tokens_cutOne_11 : decode prog_11_method_6_code 11 = .ok (.if_icmp .lt 18, 3) := by decide +kernel
theorem d_Tokens_cutOne_14 : decode prog_11_method_6_code 14 = .ok (.iload 4, 2) := by decide +kernel
theorem d_Tokens_cutOne_16 : decode prog_11_method_6_code 16 = .ok (.bipush 122, 2) := by decide +kernel
theorem d_Tokens_cutOne_18 : decode prog_11_method_6_code 18 = .ok (.if_icmp .gt 11, 3) := by decide +kernel
theorem d_Tokens_cutOne_21 : decode prog_11_method_6_code 21 = .ok (.aload_n 0, 1) := by decide +kernel
theorem d_Tokens_cutOne_22 : decode prog_11_method_6_code 22 = .ok (.aload_n 1, 1) := by decide +kernel
theorem d_Tokens_cutOne_23 : decode prog_11_method_6_code 23 = .ok (.iload_n 2, 1) := by decide +kernel
theorem d_Tokens_cutOne_24 : decode prog_11_method_6_code 24 = .ok (.iload_n 3, 1) := by decide +kernel
theorem d_Tokens_cutOne_25 : decode prog_11_method_6_code 25 = .ok (.invokevirtual 68, 3) := by decide +kernel
theorem d_Tokens_cutOne_28 : decode prog_11_method_6_code 28 = .ok (.ireturn, 1) := by decide +kernel
theorem d_Tokens_cutOne_29 : decode prog_11_method_6_code 29 = .ok (.iload 4, 2) := by decide +kernel
theorem d_Tokens_cutOne_31 : decode prog_11_method_6_code 31 = .ok (.bipush 48, 2) := by decide +kernel
theorem d_Tokens_cutOne_33 : decode prog_11_method_6_code 33 = .ok (.if_icmp .lt 18, 3) := by decide +kernel
theorem d_Tokens_cutOne_36 : decode prog_11_method_6_code 36 = .ok (.iload 4, 2) := by decide +kernel
theorem d_Tokens_cutOne_38 : decode prog_11_method_6_code 38 = .ok (.bipush 57, 2) := by decide +kernel
theorem d_Tokens_cutOne_40 : decode prog_11_method_6_code 40 = .ok (.if_icmp .gt 11, 3) := by decide +kernel
theorem d_Tokens_cutOne_43 : decode prog_11_method_6_code 43 = .ok (.aload_n 0, 1) := by decide +kernel
theorem d_Tokens_cutOne_44 : decode prog_11_method_6_code 44 = .ok (.aload_n 1, 1) := by decide +kernel
theorem d_Tokens_cutOne_45 : decode prog_11_method_6_code 45 = .ok (.iload_n 2, 1) := by decide +kernel
theorem d_Tokens_cutOne_46 : decode prog_11_method_6_code 46 = .ok (.iload_n 3, 1) := by decide +kernel
theorem d_Tokens_cutOne_47 : decode prog_11_method_6_code 47 = .ok (.invokevirtual 71, 3) := by decide +kernel
theorem d_Tokens_cutOne_50 : decode prog_11_method_6_code 50 = .ok (.ireturn, 1) := by decide +kernel
theorem d_Tokens_cutOne_51 : decode prog_11_method_6_code 51 = .ok (.iload 4, 2) := by decide +kernel
theorem d_Tokens_cutOne_53 : decode prog_11_method_6_code 53 = .ok (.ifCond .ge 13, 3) := by decide +kernel
theorem d_Tokens_cutOne_56 : decode prog_11_method_6_code 56 = .ok (.aload_n 0, 1) := by decide +kernel
theorem d_Tokens_cutOne_57 : decode prog_11_method_6_code 57 = .ok (.iload_n 3, 1) := by decide +kernel
theorem d_Tokens_cutOne_58 : decode prog_11_method_6_code 58 = .ok (.iconst 0, 1) := by decide +kernel
theorem d_Tokens_cutOne_59 : decode prog_11_method_6_code 59 = .ok (.lconst 0, 1) := by decide +kernel
theorem d_Tokens_cutOne_60 : decode prog_11_method_6_code 60 = .ok (.invokevirtual 74, 3) := by decide +kernel
theorem d_Tokens_cutOne_63 : decode prog_11_method_6_code 63 = .ok (.goto 23, 3) := by decide +kernel
theorem d_Tokens_cutOne_66 : decode prog_11_method_6_code 66 = .ok (.aload_n 0, 1) := by decide +kernel
theorem d_Tokens_cutOne_67 : decode prog_11_method_6_code 67 = .ok (.iload_n 3, 1) := by decide +kernel
theorem d_Tokens_cutOne_68 : decode prog_11_method_6_code 68 = .ok (.iload 4, 2) := by decide +kernel
theorem d_Tokens_cutOne_70 : decode prog_11_method_6_code 70 = .ok (.invokestatic 78, 3) := by decide +kernel
theorem d_Tokens_cutOne_73 : decode prog_11_method_6_code 73 = .ok (.ifCond .eq 8, 3) := by decide +kernel
theorem d_Tokens_cutOne_76 : decode prog_11_method_6_code 76 = .ok (.iload 4, 2) := by decide +kernel
theorem d_Tokens_cutOne_78 : decode prog_11_method_6_code 78 = .ok (.goto 4, 3) := by decide +kernel
theorem d_Tokens_cutOne_81 : decode prog_11_method_6_code 81 = .ok (.iconst 1, 1) := by decide +kernel
theorem d_Tokens_cutOne_82 : decode prog_11_method_6_code 82 = .ok (.lconst 0, 1) := by decide +kernel
theorem d_Tokens_cutOne_83 : decode prog_11_method_6_code 83 = .ok (.invokevirtual 74, 3) := by decide +kernel
theorem d_Tokens_cutOne_86 : decode prog_11_method_6_code 86 = .ok (.iload_n 2, 1) := by decide +kernel
theorem d_Tokens_cutOne_87 : decode prog_11_method_6_code 87 = .ok (.iconst 1, 1) := by decide +kernel
theorem d_Tokens_cutOne_88 : decode prog_11_method_6_code 88 = .ok (.iadd, 1) := by decide +kernel
theorem d_Tokens_cutOne_89 : decode prog_11_method_6_code 89 = .ok (.ireturn, 1) := by decide +kernel
theorem d_Tokens_isSign_0 : decode prog_11_method_7_code 0 = .ok (.iload_n 0, 1) := by decide +kernel
theorem d_Tokens_isSign_1 : decode prog_11_method_7_code 1 = .ok (.bipush 59, 2) := by decide +kernel
theorem d_Tokens_isSign_3 : decode prog_11_method_7_code 3 = .ok (.if_icmp .eq 51, 3) := by decide +kernel
theorem d_Tokens_isSign_6 : decode prog_11_method_7_code 6 = .ok (.iload_n 0, 1) := by decide +kernel
theorem d_Tokens_isSign_7 : decode prog_11_method_7_code 7 = .ok (.bipush 61, 2) := by decide +kernel
theorem d_Tokens_isSign_9 : decode prog_11_method_7_code 9 = .ok (.if_icmp .eq 45, 3) := by decide +kernel
theorem d_Tokens_isSign_12 : decode prog_11_method_7_code 12 = .ok (.iload_n 0, 1) := by decide +kernel
theorem d_Tokens_isSign_13 : decode prog_11_method_7_code 13 = .ok (.bipush 43, 2) := by decide +kernel
theorem d_Tokens_isSign_15 : decode prog_11_method_7_code 15 = .ok (.if_icmp .eq 39, 3) := by decide +kernel
theorem d_Tokens_isSign_18 : decode prog_11_method_7_code 18 = .ok (.iload_n 0, 1) := by decide +kernel
theorem d_Tokens_isSign_19 : decode prog_11_method_7_code 19 = .ok (.bipush 45, 2) := by decide +kernel
theorem d_Tokens_isSign_21 : decode prog_11_method_7_code 21 = .ok (.if_icmp .eq 33, 3) := by decide +kernel
theorem d_Tokens_isSign_24 : decode prog_11_method_7_code 24 = .ok (.iload_n 0, 1) := by decide +kernel
theorem d_Tokens_isSign_25 : decode prog_11_method_7_code 25 = .ok (.bipush 42, 2) := by decide +kernel
theorem d_Tokens_isSign_27 : decode prog_11_method_7_code 27 = .ok (.if_icmp .eq 27, 3) := by decide +kernel
theorem d_Tokens_isSign_30 : decode prog_11_method_7_code 30 = .ok (.iload_n 0, 1) := by decide +kernel
theorem d_Tokens_isSign_31 : decode prog_11_method_7_code 31 = .ok (.bipush 47, 2) := by decide +kernel
theorem d_Tokens_isSign_33 : decode prog_11_method_7_code 33 = .ok (.if_icmp .eq 21, 3) := by decide +kernel
theorem d_Tokens_isSign_36 : decode prog_11_method_7_code 36 = .ok (.iload_n 0, 1) := by decide +kernel
theorem d_Tokens_isSign_37 : decode prog_11_method_7_code 37 = .ok (.bipush 60, 2) := by decide +kernel
theorem d_Tokens_isSign_39 : decode prog_11_method_7_code 39 = .ok (.if_icmp .eq 15, 3) := by decide +kernel
theorem d_Tokens_isSign_42 : decode prog_11_method_7_code 42 = .ok (.iload_n 0, 1) := by decide +kernel
theorem d_Tokens_isSign_43 : decode prog_11_method_7_code 43 = .ok (.bipush 40, 2) := by decide +kernel
theorem d_Tokens_isSign_45 : decode prog_11_method_7_code 45 = .ok (.if_icmp .eq 9, 3) := by decide +kernel
theorem d_Tokens_isSign_48 : decode prog_11_method_7_code 48 = .ok (.iload_n 0, 1) := by decide +kernel
theorem d_Tokens_isSign_49 : decode prog_11_method_7_code 49 = .ok (.bipush 41, 2) := by decide +kernel
theorem d_Tokens_isSign_51 : decode prog_11_method_7_code 51 = .ok (.if_icmp .ne 7, 3) := by decide +kernel
theorem d_Tokens_isSign_54 : decode prog_11_method_7_code 54 = .ok (.iconst 1, 1) := by decide +kernel
theorem d_Tokens_isSign_55 : decode prog_11_method_7_code 55 = .ok (.goto 4, 3) := by decide +kernel
theorem d_Tokens_isSign_58 : decode prog_11_method_7_code 58 = .ok (.iconst 0, 1) := by decide +kernel
theorem d_Tokens_isSign_59 : decode prog_11_method_7_code 59 = .ok (.ireturn, 1) := by decide +kernel
theorem d_Tokens_cutLetters_0 : decode prog_11_method_8_code 0 = .ok (.lconst 0, 1) := by decide +kernel
theorem d_Tokens_cutLetters_1 : decode prog_11_method_8_code 1 = .ok (.lstore 4, 2) := by decide +kernel
theorem d_Tokens_cutLetters_3 : decode prog_11_method_8_code 3 = .ok (.iload_n 2, 1) := by decide +kernel
theorem d_Tokens_cutLetters_4 : decode prog_11_method_8_code 4 = .ok (.istore 6, 2) := by decide +kernel
theorem d_Tokens_cutLetters_6 : decode prog_11_method_8_code 6 = .ok (.iload 6, 2) := by decide +kernel
theorem d_Tokens_cutLetters_8 : decode prog_11_method_8_code 8 = .ok (.aload_n 1, 1) := by decide +kernel
theorem d_Tokens_cutLetters_9 : decode prog_11_method_8_code 9 = .ok (.getfield 55, 3) := by decide +kernel
theorem d_Tokens_cutLetters_12 : decode prog_11_method_8_code 12 = .ok (.if_icmp .ge 44, 3) := by decide +kernel
theorem d_Tokens_cutLetters_15 : decode prog_11_method_8_code 15 = .ok (.aload_n 1, 1) := by decide +kernel
theorem d_Tokens_cutLetters_16 : decode prog_11_method_8_code 16 = .ok (.iload 6, 2) := by decide +kernel
theorem d_Tokens_cutLetters_18 : decode prog_11_method_8_code 18 = .ok (.invokevirtual 60, 3) := by decide +kernel
theorem d_Tokens_cutLetters_21 : decode prog_11_method_8_code 21 = .ok (.bipush 97, 2) := by decide +kernel
theorem d_Tokens_cutLetters_23 : decode prog_11_method_8_code 23 = .ok (.if_icmp .lt 33, 3) := by decide +kernel
theorem d_Tokens_cutLetters_26 : decode prog_11_method_8_code 26 = .ok (.aload_n 1, 1) := by decide +kernel
theorem d_Tokens_cutLetters_27 : decode prog_11_method_8_code 27 = .ok (.iload 6, 2) := by decide +kernel
theorem d_Tokens_cutLetters_29 : decode prog_11_method_8_code 29 = .ok (.invokevirtual 60, 3) := by decide +kernel
theorem d_Tokens_cutLetters_32 : decode prog_11_method_8_code 32 = .ok (.bipush 122, 2) := by decide +kernel
theorem d_Tokens_cutLetters_34 : decode prog_11_method_8_code 34 = .ok (.if_icmp .gt 22, 3) := by decide +kernel
theorem d_Tokens_cutLetters_37 : decode prog_11_method_8_code 37 = .ok (.lload 4, 2) := by decide +kernel
theorem d_Tokens_cutLetters_39 : decode prog_11_method_8_code 39 = .ok (.aload_n 1, 1) := by decide +kernel
theorem d_Tokens_cutLetters_40 : decode prog_11_method_8_code 40 = .ok (.iload 6, 2) := by decide +kernel
theorem d_Tokens_cutLetters_42 : decode prog_11_method_8_code 42 = .ok (.invokevirtual 60, 3) := by decide +kernel
theorem d_Tokens_cutLetters_45 : decode prog_11_method_8_code 45 = .ok (.invokestatic 37, 3) := by decide +kernel
theorem d_Tokens_cutLetters_48 : decode prog_11_method_8_code 48 = .ok (.lstore 4, 2) := by decide +kernel
theorem d_Tokens_cutLetters_50 : decode prog_11_method_8_code 50 = .ok (.iinc 6 1, 3) := by decide +kernel
theorem d_Tokens_cutLetters_53 : decode prog_11_method_8_code 53 = .ok (.goto (-47), 3) := by decide +kernel
theorem d_Tokens_cutLetters_56 : decode prog_11_method_8_code 56 = .ok (.aload_n 0, 1) := by decide +kernel
theorem d_Tokens_cutLetters_57 : decode prog_11_method_8_code 57 = .ok (.iload_n 3, 1) := by decide +kernel
theorem d_Tokens_cutLetters_58 : decode prog_11_method_8_code 58 = .ok (.iload 6, 2) := by decide +kernel
theorem d_Tokens_cutLetters_60 : decode prog_11_method_8_code 60 = .ok (.iload_n 2, 1) := by decide +kernel
theorem d_Tokens_cutLetters_61 : decode prog_11_method_8_code 61 = .ok (.isub, 1) := by decide +kernel
theorem d_Tokens_cutLetters_62 : decode prog_11_method_8_code 62 = .ok (.bipush 8, 2) := by decide +kernel
theorem d_Tokens_cutLetters_64 : decode prog_11_method_8_code 64 = .ok (.if_icmp .le 7, 3) := by decide +kernel
theorem d_Tokens_cutLetters_67 : decode prog_11_method_8_code 67 = .ok (.iconst 1, 1) := by decide +kernel
theorem d_Tokens_cutLetters_68 : decode prog_11_method_8_code 68 = .ok (.goto 9, 3) := by decide +kernel
theorem d_Tokens_cutLetters_71 : decode prog_11_method_8_code 71 = .ok (.aload_n 0, 1) := by decide +kernel
theorem d_Tokens_cutLetters_72 : decode prog_11_method_8_code 72 = .ok (.lload 4, 2) := by decide +kernel
theorem d_Tokens_cutLetters_74 : decode prog_11_method_8_code 74 = .ok (.invokevirtual 81, 3) := by decide +kernel
theorem d_Tokens_cutLetters_77 : decode prog_11_method_8_code 77 = .ok (.lload 4, 2) := by decide +kernel
theorem d_Tokens_cutLetters_79 : decode prog_11_method_8_code 79 = .ok (.invokevirtual 74, 3) := by decide +kernel
theorem d_Tokens_cutLetters_82 : decode prog_11_method_8_code 82 = .ok (.iload 6, 2) := by decide +kernel
theorem d_Tokens_cutLetters_84 : decode prog_11_method_8_code 84 = .ok (.ireturn, 1) := by decide +kernel
theorem d_Tokens_kindOf_0 : decode prog_11_method_9_code 0 = .ok (.iconst 0, 1) := by decide +kernel
theorem d_Tokens_kindOf_1 : decode prog_11_method_9_code 1 = .ok (.istore_n 3, 1) := by decide +kernel
theorem d_Tokens_kindOf_2 : decode prog_11_method_9_code 2 = .ok (.iload_n 3, 1) := by decide +kernel
theorem d_Tokens_kindOf_3 : decode prog_11_method_9_code 3 = .ok (.aload_n 0, 1) := by decide +kernel
theorem d_Tokens_kindOf_4 : decode prog_11_method_9_code 4 = .ok (.getfield 9, 3) := by decide +kernel
theorem d_Tokens_kindOf_7 : decode prog_11_method_9_code 7 = .ok (.arraylength, 1) := by decide +kernel
theorem d_Tokens_kindOf_8 : decode prog_11_method_9_code 8 = .ok (.if_icmp .ge 26, 3) := by decide +kernel
theorem d_Tokens_kindOf_11 : decode prog_11_method_9_code 11 = .ok (.aload_n 0, 1) := by decide +kernel
theorem d_Tokens_kindOf_12 : decode prog_11_method_9_code 12 = .ok (.getfield 9, 3) := by decide +kernel
theorem d_Tokens_kindOf_15 : decode prog_11_method_9_code 15 = .ok (.iload_n 3, 1) := by decide +kernel
theorem d_Tokens_kindOf_16 : decode prog_11_method_9_code 16 = .ok (.laload, 1) := by decide +kernel
theorem d_Tokens_kindOf_17 : decode prog_11_method_9_code 17 = .ok (.lload_n 1, 1) := by decide +kernel
theorem d_Tokens_kindOf_18 : decode prog_11_method_9_code 18 = .ok (.lcmp, 1) := by decide +kernel
theorem d_Tokens_kindOf_19 : decode prog_11_method_9_code 19 = .ok (.ifCond .ne 9, 3) := by decide +kernel
theorem d_Tokens_kindOf_22 : decode prog_11_method_9_code 22 = .ok (.sipush 128, 3) := by decide +kernel
theorem d_Tokens_kindOf_25 : decode prog_11_method_9_code 25 = .ok (.iload_n 3, 1) := by decide +kernel
theorem d_Tokens_kindOf_26 : decode prog_11_method_9_code 26 = .ok (.iadd, 1) := by decide +kernel
theorem d_Tokens_kindOf_27 : decode prog_11_method_9_code 27 = .ok (.ireturn, 1) := by decide +kernel
theorem d_Tokens_kindOf_28 : decode prog_11_method_9_code 28 = .ok (.iinc 3 1, 3) := by decide +kernel
theorem d_Tokens_kindOf_31 : decode prog_11_method_9_code 31 = .ok (.goto (-29), 3) := by decide +kernel
theorem d_Tokens_kindOf_34 : decode prog_11_method_9_code 34 = .ok (.iconst 2, 1) := by decide +kernel
theorem d_Tokens_kindOf_35 : decode prog_11_method_9_code 35 = .ok (.ireturn, 1) := by decide +kernel
theorem d_Tokens_cutDigits_0 : decode prog_11_method_10_code 0 = .ok (.lconst 0, 1) := by decide +kernel
theorem d_Tokens_cutDigits_1 : decode prog_11_method_10_code 1 = .ok (.lstore 4, 2) := by decide +kernel
theorem d_Tokens_cutDigits_3 : decode prog_11_method_10_code 3 = .ok (.iload_n 2, 1) := by decide +kernel
theorem d_Tokens_cutDigits_4 : decode prog_11_method_10_code 4 = .ok (.istore 6, 2) := by decide +kernel
theorem d_Tokens_cutDigits_6 : decode prog_11_method_10_code 6 = .ok (.iload 6, 2) := by decide +kernel
theorem d_Tokens_cutDigits_8 : decode prog_11_method_10_code 8 = .ok (.aload_n 1, 1) := by decide +kernel
theorem d_Tokens_cutDigits_9 : decode prog_11_method_10_code 9 = .ok (.getfield 55, 3) := by decide +kernel
theorem d_Tokens_cutDigits_12 : decode prog_11_method_10_code 12 = .ok (.if_icmp .ge 50, 3) := by decide +kernel
theorem d_Tokens_cutDigits_15 : decode prog_11_method_10_code 15 = .ok (.aload_n 1, 1) := by decide +kernel
theorem d_Tokens_cutDigits_16 : decode prog_11_method_10_code 16 = .ok (.iload 6, 2) := by decide +kernel
theorem d_Tokens_cutDigits_18 : decode prog_11_method_10_code 18 = .ok (.invokevirtual 60, 3) := by decide +kernel
theorem d_Tokens_cutDigits_21 : decode prog_11_method_10_code 21 = .ok (.bipush 48, 2) := by decide +kernel
theorem d_Tokens_cutDigits_23 : decode prog_11_method_10_code 23 = .ok (.if_icmp .lt 39, 3) := by decide +kernel
theorem d_Tokens_cutDigits_26 : decode prog_11_method_10_code 26 = .ok (.aload_n 1, 1) := by decide +kernel
theorem d_Tokens_cutDigits_27 : decode prog_11_method_10_code 27 = .ok (.iload 6, 2) := by decide +kernel
theorem d_Tokens_cutDigits_29 : decode prog_11_method_10_code 29 = .ok (.invokevirtual 60, 3) := by decide +kernel
theorem d_Tokens_cutDigits_32 : decode prog_11_method_10_code 32 = .ok (.bipush 57, 2) := by decide +kernel
theorem d_Tokens_cutDigits_34 : decode prog_11_method_10_code 34 = .ok (.if_icmp .gt 28, 3) := by decide +kernel
theorem d_Tokens_cutDigits_37 : decode prog_11_method_10_code 37 = .ok (.lload 4, 2) := by decide +kernel
theorem d_Tokens_cutDigits_39 : decode prog_11_method_10_code 39 = .ok (.ldc2_w 85, 3) := by decide +kernel
theorem d_Tokens_cutDigits_42 : decode prog_11_method_10_code 42 = .ok (.lmul, 1) := by decide +kernel
theorem d_Tokens_cutDigits_43 : decode prog_11_method_10_code 43 = .ok (.aload_n 1, 1) := by decide +kernel
theorem d_Tokens_cutDigits_44 : decode prog_11_method_10_code 44 = .ok (.iload 6, 2) := by decide +kernel
theorem d_Tokens_cutDigits_46 : decode prog_11_method_10_code 46 = .ok (.invokevirtual 60, 3) := by decide +kernel
theorem d_Tokens_cutDigits_49 : decode prog_11_method_10_code 49 = .ok (.bipush 48, 2) := by decide +kernel
theorem d_Tokens_cutDigits_51 : decode prog_11_method_10_code 51 = .ok (.isub, 1) := by decide +kernel
theorem d_Tokens_cutDigits_52 : decode prog_11_method_10_code 52 = .ok (.i2l, 1) := by decide +kernel
theorem d_Tokens_cutDigits_53 : decode prog_11_method_10_code 53 = .ok (.ladd, 1) := by decide +kernel
theorem d_Tokens_cutDigits_54 : decode prog_11_method_10_code 54 = .ok (.lstore 4, 2) := by decide +kernel
theorem d_Tokens_cutDigits_56 : decode prog_11_method_10_code 56 = .ok (.iinc 6 1, 3) := by decide +kernel
theorem d_Tokens_cutDigits_59 : decode prog_11_method_10_code 59 = .ok (.goto (-53), 3) := by decide +kernel
theorem d_Tokens_cutDigits_62 : decode prog_11_method_10_code 62 = .ok (.aload_n 0, 1) := by decide +kernel
theorem d_Tokens_cutDigits_63 : decode prog_11_method_10_code 63 = .ok (.iload_n 3, 1) := by decide +kernel
theorem d_Tokens_cutDigits_64 : decode prog_11_method_10_code 64 = .ok (.iload 6, 2) := by decide +kernel
theorem d_Tokens_cutDigits_66 : decode prog_11_method_10_code 66 = .ok (.iload_n 2, 1) := by decide +kernel
theorem d_Tokens_cutDigits_67 : decode prog_11_method_10_code 67 = .ok (.isub, 1) := by decide +kernel
theorem d_Tokens_cutDigits_68 : decode prog_11_method_10_code 68 = .ok (.iconst 4, 1) := by decide +kernel
theorem d_Tokens_cutDigits_69 : decode prog_11_method_10_code 69 = .ok (.if_icmp .le 7, 3) := by decide +kernel
theorem d_Tokens_cutDigits_72 : decode prog_11_method_10_code 72 = .ok (.iconst 1, 1) := by decide +kernel
theorem d_Tokens_cutDigits_73 : decode prog_11_method_10_code 73 = .ok (.goto 4, 3) := by decide +kernel
theorem d_Tokens_cutDigits_76 : decode prog_11_method_10_code 76 = .ok (.iconst 3, 1) := by decide +kernel
theorem d_Tokens_cutDigits_77 : decode prog_11_method_10_code 77 = .ok (.lload 4, 2) := by decide +kernel
theorem d_Tokens_cutDigits_79 : decode prog_11_method_10_code 79 = .ok (.invokevirtual 74, 3) := by decide +kernel
theorem d_Tokens_cutDigits_82 : decode prog_11_method_10_code 82 = .ok (.iload 6, 2) := by decide +kernel
theorem d_Tokens_cutDigits_84 : decode prog_11_method_10_code 84 = .ok (.ireturn, 1) := by decide +kernel
theorem d_Tokens_set_0 : decode prog_11_method_11_code 0 = .ok (.iload_n 1, 1) := by decide +kernel
theorem d_Tokens_set_1 : decode prog_11_method_11_code 1 = .ok (.ifCond .lt 35, 3) := by decide +kernel
theorem d_Tokens_set_4 : decode prog_11_method_11_code 4 = .ok (.iload_n 1, 1) := by decide +kernel
theorem d_Tokens_set_5 : decode prog_11_method_11_code 5 = .ok (.aload_n 0, 1) := by decide +kernel
theorem d_Tokens_set_6 : decode prog_11_method_11_code 6 = .ok (.getfield 15, 3) := by decide +kernel
theorem d_Tokens_set_9 : decode prog_11_method_11_code 9 = .ok (.arraylength, 1) := by decide +kernel
theorem d_Tokens_set_10 : decode prog_11_method_11_code 10 = .ok (.if_icmp .ge 26, 3) := by decide +kernel
theorem d_Tokens_set_13 : decode prog_11_method_11_code 13 = .ok (.iload_n 1, 1) := by decide +kernel
theorem d_Tokens_set_14 : decode prog_11_method_11_code 14 = .ok (.aload_n 0, 1) := by decide +kernel
theorem d_Tokens_set_15 : decode prog_11_method_11_code 15 = .ok (.getfield 22, 3) := by decide +kernel
theorem d_Tokens_set_18 : decode prog_11_method_11_code 18 = .ok (.arraylength, 1) := by decide +kernel
theorem d_Tokens_set_19 : decode prog_11_method_11_code 19 = .ok (.if_icmp .ge 17, 3) := by decide +kernel
theorem d_Tokens_set_22 : decode prog_11_method_11_code 22 = .ok (.aload_n 0, 1) := by decide +kernel
theorem d_Tokens_set_23 : decode prog_11_method_11_code 23 = .ok (.getfield 15, 3) := by decide +kernel
theorem d_Tokens_set_26 : decode prog_11_method_11_code 26 = .ok (.iload_n 1, 1) := by decide +kernel
theorem d_Tokens_set_27 : decode prog_11_method_11_code 27 = .ok (.iload_n 2, 1) := by decide +kernel
theorem d_Tokens_set_28 : decode prog_11_method_11_code 28 = .ok (.iastore, 1) := by decide +kernel
theorem d_Tokens_set_29 : decode prog_11_method_11_code 29 = .ok (.aload_n 0, 1) := by decide +kernel
theorem d_Tokens_set_30 : decode prog_11_method_11_code 30 = .ok (.getfield 22, 3) := by decide +kernel
theorem d_Tokens_set_33 : decode prog_11_method_11_code 33 = .ok (.iload_n 1, 1) := by decide +kernel
theorem d_Tokens_set_34 : decode prog_11_method_11_code 34 = .ok (.lload_n 3, 1) := by decide +kernel
theorem d_Tokens_set_35 : decode prog_11_method_11_code 35 = .ok (.lastore, 1) := by decide +kernel
theorem d_Tokens_set_36 : decode prog_11_method_11_code 36 = .ok (.return_, 1) := by decide +kernel
theorem d_Tokens_valueAt_0 : decode prog_11_method_12_code 0 = .ok (.iload_n 1, 1) := by decide +kernel
theorem d_Tokens_valueAt_1 : decode prog_11_method_12_code 1 = .ok (.ifCond .lt 21, 3) := by decide +kernel
theorem d_Tokens_valueAt_4 : decode prog_11_method_12_code 4 = .ok (.iload_n 1, 1) := by decide +kernel
theorem d_Tokens_valueAt_5 : decode prog_11_method_12_code 5 = .ok (.aload_n 0, 1) := by decide +kernel
theorem d_Tokens_valueAt_6 : decode prog_11_method_12_code 6 = .ok (.getfield 22, 3) := by decide +kernel
theorem d_Tokens_valueAt_9 : decode prog_11_method_12_code 9 = .ok (.arraylength, 1) := by decide +kernel
theorem d_Tokens_valueAt_10 : decode prog_11_method_12_code 10 = .ok (.if_icmp .ge 12, 3) := by decide +kernel
theorem d_Tokens_valueAt_13 : decode prog_11_method_12_code 13 = .ok (.aload_n 0, 1) := by decide +kernel
theorem d_Tokens_valueAt_14 : decode prog_11_method_12_code 14 = .ok (.getfield 22, 3) := by decide +kernel
theorem d_Tokens_valueAt_17 : decode prog_11_method_12_code 17 = .ok (.iload_n 1, 1) := by decide +kernel
theorem d_Tokens_valueAt_18 : decode prog_11_method_12_code 18 = .ok (.laload, 1) := by decide +kernel
theorem d_Tokens_valueAt_19 : decode prog_11_method_12_code 19 = .ok (.goto 4, 3) := by decide +kernel
theorem d_Tokens_valueAt_22 : decode prog_11_method_12_code 22 = .ok (.lconst 0, 1) := by decide +kernel
theorem d_Tokens_valueAt_23 : decode prog_11_method_12_code 23 = .ok (.lreturn, 1) := by decide +kernel
theorem d_Told_init_0 : decode prog_12_method_1_code 0 = .ok (.aload_n 0, 1) := by decide +kernel
theorem d_Told_init_1 : decode prog_12_method_1_code 1 = .ok (.invokespecial 5, 3) := by decide +kernel
theorem d_Told_init_4 : decode prog_12_method_1_code 4 = .ok (.aload_n 0, 1) := by decide +kernel
theorem d_Told_init_5 : decode prog_12_method_1_code 5 = .ok (.bipush 20, 2) := by decide +kernel
theorem d_Told_init_7 : decode prog_12_method_1_code 7 = .ok (.newarray .int, 2) := by decide +kernel
theorem d_Told_init_9 : decode prog_12_method_1_code 9 = .ok (.putfield 11, 3) := by decide +kernel
theorem d_Told_init_12 : decode prog_12_method_1_code 12 = .ok (.aload_n 0, 1) := by decide +kernel
theorem d_Told_init_13 : decode prog_12_method_1_code 13 = .ok (.bipush 20, 2) := by decide +kernel
theorem d_Told_init_15 : decode prog_12_method_1_code 15 = .ok (.newarray .int, 2) := by decide +kernel
theorem d_Told_init_17 : decode prog_12_method_1_code 17 = .ok (.putfield 15, 3) := by decide +kernel
theorem d_Told_init_20 : decode prog_12_method_1_code 20 = .ok (.aload_n 0, 1) := by decide +kernel
theorem d_Told_init_21 : decode prog_12_method_1_code 21 = .ok (.bipush 20, 2) := by decide +kernel
theorem d_Told_init_23 : decode prog_12_method_1_code 23 = .ok (.newarray .int, 2) := by decide +kernel
theorem d_Told_init_25 : decode prog_12_method_1_code 25 = .ok (.putfield 18, 3) := by decide +kernel
theorem d_Told_init_28 : decode prog_12_method_1_code 28 = .ok (.aload_n 0, 1) := by decide +kernel
theorem d_Told_init_29 : decode prog_12_method_1_code 29 = .ok (.bipush 65, 2) := by decide +kernel
theorem d_Told_init_31 : decode prog_12_method_1_code 31 = .ok (.newarray .int, 2) := by decide +kernel
theorem d_Told_init_33 : decode prog_12_method_1_code 33 = .ok (.putfield 21, 3) := by decide +kernel
theorem d_Told_init_36 : decode prog_12_method_1_code 36 = .ok (.aload_n 0, 1) := by decide +kernel
theorem d_Told_init_37 : decode prog_12_method_1_code 37 = .ok (.bipush 65, 2) := by decide +kernel
theorem d_Told_init_39 : decode prog_12_method_1_code 39 = .ok (.newarray .int, 2) := by decide +kernel
theorem d_Told_init_41 : decode prog_12_method_1_code 41 = .ok (.putfield 24, 3) := by decide +kernel
theorem d_Told_init_44 : decode prog_12_method_1_code 44 = .ok (.aload_n 0, 1) := by decide +kernel
theorem d_Told_init_45 : decode prog_12_method_1_code 45 = .ok (.sipush 195, 3) := by decide +kernel
theorem d_Told_init_48 : decode prog_12_method_1_code 48 = .ok (.newarray .int, 2) := by decide +kernel
theorem d_Told_init_50 : decode prog_12_method_1_code 50 = .ok (.putfield 27, 3) := by decide +kernel
theorem d_Told_init_53 : decode prog_12_method_1_code 53 = .ok (.aload_n 0, 1) := by decide +kernel
theorem d_Told_init_54 : decode prog_12_method_1_code 54 = .ok (.bipush 100, 2) := by decide +kernel
theorem d_Told_init_56 : decode prog_12_method_1_code 56 = .ok (.newarray .int, 2) := by decide +kernel
theorem d_Told_init_58 : decode prog_12_method_1_code 58 = .ok (.putfield 30, 3) := by decide +kernel
theorem d_Told_init_61 : decode prog_12_method_1_code 61 = .ok (.return_, 1) := by decide +kernel
theorem d_Told_clear_0 : decode prog_12_method_2_code 0 = .ok (.aload_n 0, 1) := by decide +kernel
theorem d_Told_clear_1 : decode prog_12_method_2_code 1 = .ok (.iconst 0, 1) := by decide +kernel
theorem d_Told_clear_2 : decode prog_12_method_2_code 2 = .ok (.putfield 33, 3) := by decide +kernel
theorem d_Told_clear_5 : decode prog_12_method_2_code 5 = .ok (.return_, 1) := by decide +kernel
theorem d_Told_add_0 : decode prog_12_method_3_code 0 = .ok (.aload_n 0, 1) := by decide +kernel
theorem d_Told_add_1 : decode prog_12_method_3_code 1 = .ok (.getfield 33, 3) := by decide +kernel
theorem d_Told_add_4 : decode prog_12_method_3_code 4 = .ok (.bipush 20, 2) := by decide +kernel
theorem d_Told_add_6 : decode prog_12_method_3_code 6 = .ok (.if_icmp .lt 5, 3) := by decide +kernel
theorem d_Told_add_9 : decode prog_12_method_3_code 9 = .ok (.iconst (-1), 1) := by decide +kernel
theorem d_Told_add_10 : decode prog_12_method_3_code 10 = .ok (.ireturn, 1) := by decide +kernel
theorem d_Told_add_11 : decode prog_12_method_3_code 11 = .ok (.aload_n 0, 1) := by decide +kernel
theorem d_Told_add_12 : decode prog_12_method_3_code 12 = .ok (.getfield 11, 3) := by decide +kernel
theorem d_Told_add_15 : decode prog_12_method_3_code 15 = .ok (.aload_n 0, 1) := by decide +kernel
theorem d_Told_add_16 : decode prog_12_method_3_code 16 = .ok (.getfield 33, 3) := by decide +kernel
theorem d_Told_add_19 : decode prog_12_method_3_code 19 = .ok (.iload_n 1, 1) := by decide +kernel
theorem d_Told_add_20 : decode prog_12_method_3_code 20 = .ok (.invokestatic 37, 3) := by decide +kernel
theorem d_Told_add_23 : decode prog_12_method_3_code 23 = .ok (.aload_n 0, 1) := by decide +kernel
theorem d_Told_add_24 : decode prog_12_method_3_code 24 = .ok (.getfield 15, 3) := by decide +kernel
theorem d_Told_add_27 : decode prog_12_method_3_code 27 = .ok (.aload_n 0, 1) := by decide +kernel
theorem d_Told_add_28 : decode prog_12_method_3_code 28 = .ok (.getfield 33, 3) := by decide +kernel
theorem d_Told_add_31 : decode prog_12_method_3_code 31 = .ok (.iload_n 2, 1) := by decide +kernel
theorem d_Told_add_32 : decode prog_12_method_3_code 32 = .ok (.invokestatic 37, 3) := by decide +kernel
theorem d_Told_add_35 : decode prog_12_method_3_code 35 = .ok (.aload_n 0, 1) := by decide +kernel
theorem d_Told_add_36 : decode prog_12_method_3_code 36 = .ok (.getfield 18, 3) := by decide +kernel
theorem d_Told_add_39 : decode prog_12_method_3_code 39 = .ok (.aload_n 0, 1) := by decide +kernel
theorem d_Told_add_40 : decode prog_12_method_3_code 40 = .ok (.getfield 33, 3) := by decide +kernel
theorem d_Told_add_43 : decode prog_12_method_3_code 43 = .ok (.iload_n 3, 1) := by decide +kernel
theorem d_Told_add_44 : decode prog_12_method_3_code 44 = .ok (.invokestatic 37, 3) := by decide +kernel
theorem d_Told_add_47 : decode prog_12_method_3_code 47 = .ok (.aload_n 0, 1) := by decide +kernel
theorem d_Told_add_48 : decode prog_12_method_3_code 48 = .ok (.dup, 1) := by decide +kernel
theorem d_Told_add_49 : decode prog_12_method_3_code 49 = .ok (.getfield 33, 3) := by decide +kernel
theorem d_Told_add_52 : decode prog_12_method_3_code 52 = .ok (.iconst 1, 1) := by decide +kernel
theorem d_Told_add_53 : decode prog_12_method_3_code 53 = .ok (.iadd, 1) := by decide +kernel
theorem d_Told_add_54 : decode prog_12_method_3_code 54 = .ok (.putfield 33, 3) := by decide +kernel
theorem d_Told_add_57 : decode prog_12_method_3_code 57 = .ok (.aload_n 0, 1) := by decide +kernel
theorem d_Told_add_58 : decode prog_12_method_3_code 58 = .ok (.getfield 33, 3) := by decide +kernel
theorem d_Told_add_61 : decode prog_12_method_3_code 61 = .ok (.iconst 1, 1) := by decide +kernel
theorem d_Told_add_62 : decode prog_12_method_3_code 62 = .ok (.isub, 1) := by decide +kernel
theorem d_Told_add_63 : decode prog_12_method_3_code 63 = .ok (.ireturn, 1) := by decide +kernel
theorem d_Told_gather_0 : decode prog_12_method_4_code 0 = .ok (.aload_n 0, 1) := by decide +kernel
theorem d_Told_gather_1 : decode prog_12_method_4_code 1 = .ok (.iconst 0, 1) := by decide +kernel
theorem d_Told_gather_2 : decode prog_12_method_4_code 2 = .ok (.putfield 41, 3) := by decide +kernel
theorem d_Told_gather_5 : decode prog_12_method_4_code 5 = .ok (.iconst 0, 1) := by decide +kernel
theorem d_Told_gather_6 : decode prog_12_method_4_code 6 = .ok (.istore 4, 2) := by decide +kernel
theorem d_Told_gather_8 : decode prog_12_method_4_code 8 = .ok (.iload 4, 2) := by decide +kernel
theorem d_Told_gather_10 : decode prog_12_method_4_code 10 = .ok (.aload_n 1, 1) := by decide +kernel
theorem d_Told_gather_11 : decode prog_12_method_4_code 11 = .ok (.getfield 44, 3) := by decide +kernel
theorem d_Told_gather_14 : decode prog_12_method_4_code 14 = .ok (.if_icmp .ge 57, 3) := by decide +kernel
theorem d_Told_gather_17 : decode prog_12_method_4_code 17 = .ok (.iconst 0, 1) := by decide +kernel
theorem d_Told_gather_18 : decode prog_12_method_4_code 18 = .ok (.istore 5, 2) := by decide +kernel
theorem d_Told_gather_20 : decode prog_12_method_4_code 20 = .ok (.iload 5, 2) := by decide +kernel
theorem d_Told_gather_22 : decode prog_12_method_4_code 22 = .ok (.bipush 13, 2) := by decide +kernel
theorem d_Told_gather_24 : decode prog_12_method_4_code 24 = .ok (.if_icmp .ge 41, 3) := by decide +kernel
theorem d_Told_gather_27 : decode prog_12_method_4_code 27 = .ok (.aload_n 0, 1) := by decide +kernel
theorem d_Told_gather_28 : decode prog_12_method_4_code 28 = .ok (.aload_n 1, 1) := by decide +kernel
theorem d_Told_gather_29 : decode prog_12_method_4_code 29 = .ok (.iload 4, 2) := by decide +kernel
theorem d_Told_gather_31 : decode prog_12_method_4_code 31 = .ok (.iload 5, 2) := by decide +kernel
theorem d_Told_gather_33 : decode prog_12_method_4_code 33 = .ok (.invokevirtual 49, 3) := by decide +kernel
theorem d_Told_gather_36 : decode prog_12_method_4_code 36 = .ok (.ifCond .eq 23, 3) := by decide +kernel
theorem d_Told_gather_39 : decode prog_12_method_4_code 39 = .ok (.aload_n 0, 1) := by decide +kernel
theorem d_Told_gather_40 : decode prog_12_method_4_code 40 = .ok (.aload_n 1, 1) := by decide +kernel
theorem d_Told_gather_41 : decode prog_12_method_4_code 41 = .ok (.iload_n 2, 1) := by decide +kernel
theorem d_Told_gather_42 : decode prog_12_method_4_code 42 = .ok (.iload_n 3, 1) := by decide +kernel
theorem d_Told_gather_43 : decode prog_12_method_4_code 43 = .ok (.invokevirtual 53, 3) := by decide +kernel
theorem d_Told_gather_46 : decode prog_12_method_4_code 46 = .ok (.ifCond .eq 13, 3) := by decide +kernel
theorem d_Told_gather_49 : decode prog_12_method_4_code 49 = .ok (.aload_n 0, 1) := by decide +kernel
theorem d_Told_gather_50 : decode prog_12_method_4_code 50 = .ok (.dup, 1) := by decide +kernel
theorem d_Told_gather_51 : decode prog_12_method_4_code 51 = .ok (.getfield 41, 3) := by decide +kernel
theorem d_Told_gather_54 : decode prog_12_method_4_code 54 = .ok (.iconst 1, 1) := by decide +kernel
theorem d_Told_gather_55 : decode prog_12_method_4_code 55 = .ok (.iadd, 1) := by decide +kernel
theorem d_Told_gather_56 : decode prog_12_method_4_code 56 = .ok (.putfield 41, 3) := by decide +kernel
theorem d_Told_gather_59 : decode prog_12_method_4_code 59 = .ok (.iinc 5 1, 3) := by decide +kernel
theorem d_Told_gather_62 : decode prog_12_method_4_code 62 = .ok (.goto (-42), 3) := by decide +kernel
theorem d_Told_gather_65 : decode prog_12_method_4_code 65 = .ok (.iinc 4 1, 3) := by decide +kernel
theorem d_Told_gather_68 : decode prog_12_method_4_code 68 = .ok (.goto (-60), 3) := by decide +kernel
theorem d_Told_gather_71 : decode prog_12_method_4_code 71 = .ok (.return_, 1) := by decide +kernel
theorem d_Told_lay_0 : decode prog_12_method_5_code 0 = .ok (.iload_n 3, 1) := by decide +kernel
theorem d_Told_lay_1 : decode prog_12_method_5_code 1 = .ok (.ifCond .ne 7, 3) := by decide +kernel
theorem d_Told_lay_4 : decode prog_12_method_5_code 4 = .ok (.iconst 0, 1) := by decide +kernel
theorem d_Told_lay_5 : decode prog_12_method_5_code 5 = .ok (.goto 14, 3) := by decide +kernel
theorem d_Told_lay_8 : decode prog_12_method_5_code 8 = .ok (.iload_n 3, 1) := by decide +kernel
theorem d_Told_lay_9 : decode prog_12_method_5_code 9 = .ok (.bipush 6, 2) := by decide +kernel
theorem d_Told_lay_11 : decode prog_12_method_5_code 11 = .ok (.if_icmp .gt 7, 3) := by decide +kernel
theorem d_Told_lay_14 : decode prog_12_method_5_code 14 = .ok (.iconst 1, 1) := by decide +kernel
theorem d_Told_lay_15 : decode prog_12_method_5_code 15 = .ok (.goto 4, 3) := by decide +kernel
theorem d_Told_lay_18 : decode prog_12_method_5_code 18 = .ok (.iconst (-1), 1) := by decide +kernel
theorem d_Told_lay_19 : decode prog_12_method_5_code 19 = .ok (.istore 4, 2) := by decide +kernel
theorem d_Told_lay_21 : decode prog_12_method_5_code 21 = .ok (.iload 4, 2) := by decide +kernel
theorem d_Told_lay_23 : decode prog_12_method_5_code 23 = .ok (.ifCond .le 9, 3) := by decide +kernel
theorem d_Told_lay_26 : decode prog_12_method_5_code 26 = .ok (.iload_n 3, 1) := by decide +kernel
theorem d_Told_lay_27 : decode prog_12_method_5_code 27 = .ok (.iconst 1, 1) := by decide +kernel
theorem d_Told_lay_28 : decode prog_12_method_5_code 28 = .ok (.isub, 1) := by decide +kernel
theorem d_Told_lay_29 : decode prog_12_method_5_code 29 = .ok (.goto 9, 3) := by decide +kernel
theorem d_Told_lay_32 : decode prog_12_method_5_code 32 = .ok (.iload_n 3, 1) := by decide +kernel
theorem d_Told_lay_33 : decode prog_12_method_5_code 33 = .ok (.iconst 1, 1) := by decide +kernel
theorem d_Told_lay_34 : decode prog_12_method_5_code 34 = .ok (.isub, 1) := by decide +kernel
theorem d_Told_lay_35 : decode prog_12_method_5_code 35 = .ok (.bipush 6, 2) := by decide +kernel
theorem d_Told_lay_37 : decode prog_12_method_5_code 37 = .ok (.isub, 1) := by decide +kernel
theorem d_Told_lay_38 : decode prog_12_method_5_code 38 = .ok (.istore 5, 2) := by decide +kernel
theorem d_Told_lay_40 : decode prog_12_method_5_code 40 = .ok (.aload_n 1, 1) := by decide +kernel
theorem d_Told_lay_41 : decode prog_12_method_5_code 41 = .ok (.iload_n 2, 1) := by decide +kernel
theorem d_Told_lay_42 : decode prog_12_method_5_code 42 = .ok (.invokevirtual 56, 3) := by decide +kernel
theorem d_Told_lay_45 : decode prog_12_method_5_code 45 = .ok (.iload 4, 2) := by decide +kernel
theorem d_Told_lay_47 : decode prog_12_method_5_code 47 = .ok (.iadd, 1) := by decide +kernel
theorem d_Told_lay_48 : decode prog_12_method_5_code 48 = .ok (.istore 6, 2) := by decide +kernel
theorem d_Told_lay_50 : decode prog_12_method_5_code 50 = .ok (.iload 4, 2) := by decide +kernel
theorem d_Told_lay_52 : decode prog_12_method_5_code 52 = .ok (.ifCond .eq 12, 3) := by decide +kernel
theorem d_Told_lay_55 : decode prog_12_method_5_code 55 = .ok (.iload 5, 2) := by decide +kernel
theorem d_Told_lay_57 : decode prog_12_method_5_code 57 = .ok (.aload_n 1, 1) := by decide +kernel
theorem d_Told_lay_58 : decode prog_12_method_5_code 58 = .ok (.getfield 60, 3) := by decide +kernel
theorem d_Told_lay_61 : decode prog_12_method_5_code 61 = .ok (.if_icmp .ge 24, 3) := by decide +kernel
theorem d_Told_lay_64 : decode prog_12_method_5_code 64 = .ok (.iload 4, 2) := by decide +kernel
theorem d_Told_lay_66 : decode prog_12_method_5_code 66 = .ok (.ifCond .ge 13, 3) := by decide +kernel
theorem d_Told_lay_69 : decode prog_12_method_5_code 69 = .ok (.aload_n 1, 1) := by decide +kernel
theorem d_Told_lay_70 : decode prog_12_method_5_code 70 = .ok (.iload_n 2, 1) := by decide +kernel
theorem d_Told_lay_71 : decode prog_12_method_5_code 71 = .ok (.iload 5, 2) := by decide +kernel
theorem d_Told_lay_73 : decode prog_12_method_5_code 73 = .ok (.invokevirtual 63, 3) := by decide +kernel
theorem d_Told_lay_76 : decode prog_12_method_5_code 76 = .ok (.ifCond .eq 9, 3) := by decide +kernel
theorem d_Told_lay_79 : decode prog_12_method_5_code 79 = .ok (.iload 6, 2) := by decide +kernel
theorem d_Told_lay_81 : decode prog_12_method_5_code 81 = .ok (.iconst 1, 1) := by decide +kernel
theorem d_Told_lay_82 : decode prog_12_method_5_code 82 = .ok (.if_icmp .ge 5, 3) := by decide +kernel
theorem d_Told_lay_85 : decode prog_12_method_5_code 85 = .ok (.iconst 0, 1) := by decide +kernel
theorem d_Told_lay_86 : decode prog_12_method_5_code 86 = .ok (.ireturn, 1) := by decide +kernel
theorem d_Told_lay_87 : decode prog_12_method_5_code 87 = .ok (.aload_n 0, 1) := by decide +kernel
theorem d_Told_lay_88 : decode prog_12_method_5_code 88 = .ok (.getfield 21, 3) := by decide +kernel
theorem d_Told_lay_91 : decode prog_12_method_5_code 91 = .ok (.aload_n 0, 1) := by decide +kernel
theorem d_Told_lay_92 : decode prog_12_method_5_code 92 = .ok (.getfield 41, 3) := by decide +kernel
theorem d_Told_lay_95 : decode prog_12_method_5_code 95 = .ok (.iload_n 2, 1) := by decide +kernel
theorem d_Told_lay_96 : decode prog_12_method_5_code 96 = .ok (.invokestatic 37, 3) := by decide +kernel
theorem d_Told_lay_99 : decode prog_12_method_5_code 99 = .ok (.aload_n 0, 1) := by decide +kernel
theorem d_Told_lay_100 : decode prog_12_method_5_code 100 = .ok (.getfield 24, 3) := by decide +kernel
theorem d_Told_lay_103 : decode prog_12_method_5_code 103 = .ok (.aload_n 0, 1) := by decide +kernel
theorem d_Told_lay_104 : decode prog_12_method_5_code 104 = .ok (.getfield 41, 3) := by decide +kernel
theorem d_Told_lay_107 : decode prog_12_method_5_code 107 = .ok (.iload 6, 2) := by decide +kernel
theorem d_Told_lay_109 : decode prog_12_method_5_code 109 = .ok (.invokestatic 37, 3) := by decide +kernel
theorem d_Told_lay_112 : decode prog_12_method_5_code 112 = .ok (.iconst 0, 1) := by decide +kernel
theorem d_Told_lay_113 : decode prog_12_method_5_code 113 = .ok (.istore 7, 2) := by decide +kernel
theorem d_Told_lay_115 : decode prog_12_method_5_code 115 = .ok (.iload 7, 2) := by decide +kernel
theorem d_Told_lay_117 : decode prog_12_method_5_code 117 = .ok (.iconst 3, 1) := by decide +kernel
theorem d_Told_lay_118 : decode prog_12_method_5_code 118 = .ok (.if_icmp .ge 57, 3) := by decide +kernel
theorem d_Told_lay_121 : decode prog_12_method_5_code 121 = .ok (.iload 4, 2) := by decide +kernel
theorem d_Told_lay_123 : decode prog_12_method_5_code 123 = .ok (.ifCond .ne 7, 3) := by decide +kernel
theorem d_Told_lay_126 : decode prog_12_method_5_code 126 = .ok (.iconst 0, 1) := by decide +kernel
theorem d_Told_lay_127 : decode prog_12_method_5_code 127 = .ok (.goto 14, 3) := by decide +kernel
theorem d_Told_lay_130 : decode prog_12_method_5_code 130 = .ok (.iload 4, 2) := by decide +kernel
theorem d_Told_lay_132 : decode prog_12_method_5_code 132 = .ok (.aload_n 1, 1) := by decide +kernel
theorem d_Told_lay_133 : decode prog_12_method_5_code 133 = .ok (.iload 5, 2) := by decide +kernel
theorem d_Told_lay_135 : decode prog_12_method_5_code 135 = .ok (.iload 7, 2) := by decide +kernel
theorem d_Told_lay_137 : decode prog_12_method_5_code 137 = .ok (.invokevirtual 67, 3) := by decide +kernel
theorem d_Told_lay_140 : decode prog_12_method_5_code 140 = .ok (.imul, 1) := by decide +kernel
theorem d_Told_lay_141 : decode prog_12_method_5_code 141 = .ok (.istore 8, 2) := by decide +kernel
theorem d_Told_lay_143 : decode prog_12_method_5_code 143 = .ok (.aload_n 0, 1) := by decide +kernel
theorem d_Told_lay_144 : decode prog_12_method_5_code 144 = .ok (.getfield 27, 3) := by decide +kernel
theorem d_Told_lay_147 : decode prog_12_method_5_code 147 = .ok (.aload_n 0, 1) := by decide +kernel
theorem d_Told_lay_148 : decode prog_12_method_5_code 148 = .ok (.getfield 41, 3) := by decide +kernel
theorem d_Told_lay_151 : decode prog_12_method_5_code 151 = .ok (.iconst 3, 1) := by decide +kernel
theorem d_Told_lay_152 : decode prog_12_method_5_code 152 = .ok (.imul, 1) := by decide +kernel
theorem d_Told_lay_153 : decode prog_12_method_5_code 153 = .ok (.iload 7, 2) := by decide +kernel
theorem d_Told_lay_155 : decode prog_12_method_5_code 155 = .ok (.iadd, 1) := by decide +kernel
theorem d_Told_lay_156 : decode prog_12_method_5_code 156 = .ok (.aload_n 1, 1) := by decide +kernel
theorem d_Told_lay_157 : decode prog_12_method_5_code 157 = .ok (.iload_n 2, 1) := by decide +kernel
theorem d_Told_lay_158 : decode prog_12_method_5_code 158 = .ok (.iload 7, 2) := by decide +kernel
theorem d_Told_lay_160 : decode prog_12_method_5_code 160 = .ok (.invokevirtual 70, 3) := by decide +kernel
theorem d_Told_lay_163 : decode prog_12_method_5_code 163 = .ok (.iload 8, 2) := by decide +kernel
theorem d_Told_lay_165 : decode prog_12_method_5_code 165 = .ok (.iadd, 1) := by decide +kernel
theorem d_Told_lay_166 : decode prog_12_method_5_code 166 = .ok (.invokestatic 37, 3) := by decide +kernel
theorem d_Told_lay_169 : decode prog_12_method_5_code 169 = .ok (.iinc 7 1, 3) := by decide +kernel
theorem d_Told_lay_172 : decode prog_12_method_5_code 172 = .ok (.goto (-57), 3) := by decide +kernel
theorem d_Told_lay_175 : decode prog_12_method_5_code 175 = .ok (.iconst 1, 1) := by decide +kernel
theorem d_Told_lay_176 : decode prog_12_method_5_code 176 = .ok (.ireturn, 1) := by decide +kernel
theorem d_Told_isAsKnown_0 : decode prog_12_method_6_code 0 = .ok (.iconst 0, 1) := by decide +kernel
theorem d_Told_isAsKnown_1 : decode prog_12_method_6_code 1 = .ok (.istore 4, 2) := by decide +kernel
theorem d_Told_isAsKnown_3 : decode prog_12_method_6_code 3 = .ok (.iload 4, 2) := by decide +kernel
theorem d_Told_isAsKnown_5 : decode prog_12_method_6_code 5 = .ok (.iload_n 3, 1) := by decide +kernel
theorem d_Told_isAsKnown_6 : decode prog_12_method_6_code 6 = .ok (.if_icmp .ge 51, 3) := by decide +kernel
theorem d_Told_isAsKnown_9 : decode prog_12_method_6_code 9 = .ok (.aload_n 0, 1) := by decide +kernel
theorem d_Told_isAsKnown_10 : decode prog_12_method_6_code 10 = .ok (.aload_n 1, 1) := by decide +kernel
theorem d_Told_isAsKnown_11 : decode prog_12_method_6_code 11 = .ok (.iload_n 2, 1) := by decide +kernel
theorem d_Told_isAsKnown_12 : decode prog_12_method_6_code 12 = .ok (.aload_n 0, 1) := by decide +kernel
theorem d_Told_isAsKnown_13 : decode prog_12_method_6_code 13 = .ok (.getfield 41, 3) := by decide +kernel
theorem d_Told_isAsKnown_16 : decode prog_12_method_6_code 16 = .ok (.aload_n 0, 1) := by decide +kernel
theorem d_Told_isAsKnown_17 : decode prog_12_method_6_code 17 = .ok (.getfield 11, 3) := by decide +kernel
theorem d_Told_isAsKnown_20 : decode prog_12_method_6_code 20 = .ok (.iload 4, 2) := by decide +kernel
theorem d_Told_isAsKnown_22 : decode prog_12_method_6_code 22 = .ok (.invokestatic 73, 3) := by decide +kernel
theorem d_Told_isAsKnown_25 : decode prog_12_method_6_code 25 = .ok (.aload_n 0, 1) := by decide +kernel
theorem d_Told_isAsKnown_26 : decode prog_12_method_6_code 26 = .ok (.getfield 15, 3) := by decide +kernel
theorem d_Told_isAsKnown_29 : decode prog_12_method_6_code 29 = .ok (.iload 4, 2) := by decide +kernel
theorem d_Told_isAsKnown_31 : decode prog_12_method_6_code 31 = .ok (.invokestatic 73, 3) := by decide +kernel
theorem d_Told_isAsKnown_34 : decode prog_12_method_6_code 34 = .ok (.invokevirtual 77, 3) := by decide +kernel
theorem d_Told_isAsKnown_37 : decode prog_12_method_6_code 37 = .ok (.aload_n 0, 1) := by decide +kernel
theorem d_Told_isAsKnown_38 : decode prog_12_method_6_code 38 = .ok (.getfield 18, 3) := by decide +kernel
theorem d_Told_isAsKnown_41 : decode prog_12_method_6_code 41 = .ok (.iload 4, 2) := by decide +kernel
theorem d_Told_isAsKnown_43 : decode prog_12_method_6_code 43 = .ok (.invokestatic 73, 3) := by decide +kernel
theorem d_Told_isAsKnown_46 : decode prog_12_method_6_code 46 = .ok (.if_icmp .eq 5, 3) := by decide +kernel
theorem d_Told_isAsKnown_49 : decode prog_12_method_6_code 49 = .ok (.iconst 0, 1) := by decide +kernel
theorem d_Told_isAsKnown_50 : decode prog_12_method_6_code 50 = .ok (.ireturn, 1) := by decide +kernel
theorem d_Told_isAsKnown_51 : decode prog_12_method_6_code 51 = .ok (.iinc 4 1, 3) := by decide +kernel
theorem d_Told_isAsKnown_54 : decode prog_12_method_6_code 54 = .ok (.goto (-51), 3) := by decide +kernel
theorem d_Told_isAsKnown_57 : decode prog_12_method_6_code 57 = .ok (.iconst 1, 1) := by decide +kernel
theorem d_Told_isAsKnown_58 : decode prog_12_method_6_code 58 = .ok (.ireturn, 1) := by decide +kernel
theorem d_Told_forceOf_0 : decode prog_12_method_7_code 0 = .ok (.aload_n 1, 1) := by decide +kernel
theorem d_Told_forceOf_1 : decode prog_12_method_7_code 1 = .ok (.iload 4, 2) := by decide +kernel
theorem d_Told_forceOf_3 : decode prog_12_method_7_code 3 = .ok (.aload_n 0, 1) := by decide +kernel
theorem d_Told_forceOf_4 : decode prog_12_method_7_code 4 = .ok (.getfield 27, 3) := by decide +kernel
theorem d_Told_forceOf_7 : decode prog_12_method_7_code 7 = .ok (.iload_n 3, 1) := by decide +kernel
theorem d_Told_forceOf_8 : decode prog_12_method_7_code 8 = .ok (.iconst 3, 1) := by decide +kernel
theorem d_Told_forceOf_9 : decode prog_12_method_7_code 9 = .ok (.imul, 1) := by decide +kernel
theorem d_Told_forceOf_10 : decode prog_12_method_7_code 10 = .ok (.iload 4, 2) := by decide +kernel
theorem d_Told_forceOf_12 : decode prog_12_method_7_code 12 = .ok (.iadd, 1) := by decide +kernel
theorem d_Told_forceOf_13 : decode prog_12_method_7_code 13 = .ok (.invokestatic 73, 3) := by decide +kernel
theorem d_Told_forceOf_16 : decode prog_12_method_7_code 16 = .ok (.iload 5, 2) := by decide +kernel
theorem d_Told_forceOf_18 : decode prog_12_method_7_code 18 = .ok (.aload_n 0, 1) := by decide +kernel
theorem d_Told_forceOf_19 : decode prog_12_method_7_code 19 = .ok (.getfield 24, 3) := by decide +kernel
theorem d_Told_forceOf_22 : decode prog_12_method_7_code 22 = .ok (.iload_n 3, 1) := by decide +kernel
theorem d_Told_forceOf_23 : decode prog_12_method_7_code 23 = .ok (.invokestatic 73, 3) := by decide +kernel
theorem d_Told_forceOf_26 : decode prog_12_method_7_code 26 = .ok (.iload_n 2, 1) := by decide +kernel
theorem d_Told_forceOf_27 : decode prog_12_method_7_code 27 = .ok (.invokevirtual 81, 3) := by decide +kernel
theorem d_Told_forceOf_30 : decode prog_12_method_7_code 30 = .ok (.ireturn, 1) := by decide +kernel
theorem d_Told_onlyDish_0 : decode prog_12_method_8_code 0 = .ok (.iconst 1, 1) := by decide +kernel
theorem d_Told_onlyDish_1 : decode prog_12_method_8_code 1 = .ok (.istore_n 1, 1) := by decide +kernel
theorem d_Told_onlyDish_2 : decode prog_12_method_8_code 2 = .ok (.iload_n 1, 1) := by decide +kernel
theorem d_Told_onlyDish_3 : decode prog_12_method_8_code 3 = .ok (.aload_n 0, 1) := by decide +kernel
theorem d_Told_onlyDish_4 : decode prog_12_method_8_code 4 = .ok (.getfield 41, 3) := by decide +kernel
theorem d_Told_onlyDish_7 : decode prog_12_method_8_code 7 = .ok (.if_icmp .ge 31, 3) := by decide +kernel
theorem d_Told_onlyDish_10 : decode prog_12_method_8_code 10 = .ok (.aload_n 0, 1) := by decide +kernel
theorem d_Told_onlyDish_11 : decode prog_12_method_8_code 11 = .ok (.getfield 21, 3) := by decide +kernel
theorem d_Told_onlyDish_14 : decode prog_12_method_8_code 14 = .ok (.iload_n 1, 1) := by decide +kernel
theorem d_Told_onlyDish_15 : decode prog_12_method_8_code 15 = .ok (.invokestatic 73, 3) := by decide +kernel
theorem d_Told_onlyDish_18 : decode prog_12_method_8_code 18 = .ok (.aload_n 0, 1) := by decide +kernel
theorem d_Told_onlyDish_19 : decode prog_12_method_8_code 19 = .ok (.getfield 21, 3) := by decide +kernel
theorem d_Told_onlyDish_22 : decode prog_12_method_8_code 22 = .ok (.iconst 0, 1) := by decide +kernel
theorem d_Told_onlyDish_23 : decode prog_12_method_8_code 23 = .ok (.invokestatic 73, 3) := by decide +kernel
theorem d_Told_onlyDish_26 : decode prog_12_method_8_code 26 = .ok (.if_icmp .eq 6, 3) := by decide +kernel
theorem d_Told_onlyDish_29 : decode prog_12_method_8_code 29 = .ok (.bipush (-2), 2) := by decide +kernel
theorem d_Told_onlyDish_31 : decode prog_12_method_8_code 31 = .ok (.ireturn, 1) := by decide +kernel
theorem d_Told_onlyDish_32 : decode prog_12_method_8_code 32 = .ok (.iinc 1 1, 3) := by decide +kernel
theorem d_Told_onlyDish_35 : decode prog_12_method_8_code 35 = .ok (.goto (-33), 3) := by decide +kernel
theorem d_Told_onlyDish_38 : decode prog_12_method_8_code 38 = .ok (.aload_n 0, 1) := by decide +kernel
theorem d_Told_onlyDish_39 : decode prog_12_method_8_code 39 = .ok (.getfield 41, 3) := by decide +kernel
theorem d_Told_onlyDish_42 : decode prog_12_method_8_code 42 = .ok (.ifCond .le 14, 3) := by decide +kernel
theorem d_Told_onlyDish_45 : decode prog_12_method_8_code 45 = .ok (.aload_n 0, 1) := by decide +kernel
theorem d_Told_onlyDish_46 : decode prog_12_method_8_code 46 = .ok (.getfield 21, 3) := by decide +kernel
theorem d_Told_onlyDish_49 : decode prog_12_method_8_code 49 = .ok (.iconst 0, 1) := by decide +kernel
theorem d_Told_onlyDish_50 : decode prog_12_method_8_code 50 = .ok (.invokestatic 73, 3) := by decide +kernel
theorem d_Told_onlyDish_53 : decode prog_12_method_8_code 53 = .ok (.goto 5, 3) := by decide +kernel
theorem d_Told_onlyDish_56 : decode prog_12_method_8_code 56 = .ok (.bipush (-2), 2) := by decide +kernel
theorem d_Told_onlyDish_58 : decode prog_12_method_8_code 58 = .ok (.ireturn, 1) := by decide +kernel
theorem d_Told_nextTaste_0 : decode prog_12_method_9_code 0 = .ok (.aload_n 0, 1) := by decide +kernel
theorem d_Told_nextTaste_1 : decode prog_12_method_9_code 1 = .ok (.getfield 41, 3) := by decide +kernel
theorem d_Told_nextTaste_4 : decode prog_12_method_9_code 4 = .ok (.iconst 1, 1) := by decide +kernel
theorem d_Told_nextTaste_5 : decode prog_12_method_9_code 5 = .ok (.iadd, 1) := by decide +kernel
theorem d_Told_nextTaste_6 : decode prog_12_method_9_code 6 = .ok (.istore_n 3, 1) := by decide +kernel
theorem d_Told_nextTaste_7 : decode prog_12_method_9_code 7 = .ok (.bipush (-2), 2) := by decide +kernel
theorem d_Told_nextTaste_9 : decode prog_12_method_9_code 9 = .ok (.istore 4, 2) := by decide +kernel
theorem d_Told_nextTaste_11 : decode prog_12_method_9_code 11 = .ok (.iconst 0, 1) := by decide +kernel
theorem d_Told_nextTaste_12 : decode prog_12_method_9_code 12 = .ok (.istore 5, 2) := by decide +kernel
theorem d_Told_nextTaste_14 : decode prog_12_method_9_code 14 = .ok (.aload_n 0, 1) := by decide +kernel
theorem d_Told_nextTaste_15 : decode prog_12_method_9_code 15 = .ok (.getfield 41, 3) := by decide +kernel
theorem d_Told_nextTaste_18 : decode prog_12_method_9_code 18 = .ok (.ifCond .le 62, 3) := by decide +kernel
theorem d_Told_nextTaste_21 : decode prog_12_method_9_code 21 = .ok (.iload 5, 2) := by decide +kernel
theorem d_Told_nextTaste_23 : decode prog_12_method_9_code 23 = .ok (.iconst 3, 1) := by decide +kernel
theorem d_Told_nextTaste_24 : decode prog_12_method_9_code 24 = .ok (.if_icmp .ge 56, 3) := by decide +kernel
theorem d_Told_nextTaste_27 : decode prog_12_method_9_code 27 = .ok (.iconst 0, 1) := by decide +kernel
theorem d_Told_nextTaste_28 : decode prog_12_method_9_code 28 = .ok (.istore 6, 2) := by decide +kernel
theorem d_Told_nextTaste_30 : decode prog_12_method_9_code 30 = .ok (.iload 6, 2) := by decide +kernel
theorem d_Told_nextTaste_32 : decode prog_12_method_9_code 32 = .ok (.bipush 10, 2) := by decide +kernel
theorem d_Told_nextTaste_34 : decode prog_12_method_9_code 34 = .ok (.if_icmp .ge 40, 3) := by decide +kernel
theorem d_Told_nextTaste_37 : decode prog_12_method_9_code 37 = .ok (.aload_n 0, 1) := by decide +kernel
theorem d_Told_nextTaste_38 : decode prog_12_method_9_code 38 = .ok (.aload_n 1, 1) := by decide +kernel
theorem d_Told_nextTaste_39 : decode prog_12_method_9_code 39 = .ok (.iload_n 2, 1) := by decide +kernel
theorem d_Told_nextTaste_40 : decode prog_12_method_9_code 40 = .ok (.iload 5, 2) := by decide +kernel
theorem d_Told_nextTaste_42 : decode prog_12_method_9_code 42 = .ok (.iload 6, 2) := by decide +kernel
theorem d_Told_nextTaste_44 : decode prog_12_method_9_code 44 = .ok (.invokevirtual 85, 3) := by decide +kernel
theorem d_Told_nextTaste_47 : decode prog_12_method_9_code 47 = .ok (.istore 7, 2) := by decide +kernel
theorem d_Told_nextTaste_49 : decode prog_12_method_9_code 49 = .ok (.iload 7, 2) := by decide +kernel
theorem d_Told_nextTaste_51 : decode prog_12_method_9_code 51 = .ok (.iload_n 3, 1) := by decide +kernel
theorem d_Told_nextTaste_52 : decode prog_12_method_9_code 52 = .ok (.if_icmp .ge 16, 3) := by decide +kernel
theorem d_Told_nextTaste_55 : decode prog_12_method_9_code 55 = .ok (.iload 7, 2) := by decide +kernel
theorem d_Told_nextTaste_57 : decode prog_12_method_9_code 57 = .ok (.istore_n 3, 1) := by decide +kernel
theorem d_Told_nextTaste_58 : decode prog_12_method_9_code 58 = .ok (.bipush 10, 2) := by decide +kernel
theorem d_Told_nextTaste_60 : decode prog_12_method_9_code 60 = .ok (.iload 5, 2) := by decide +kernel
theorem d_Told_nextTaste_62 : decode prog_12_method_9_code 62 = .ok (.imul, 1) := by decide +kernel
theorem d_Told_nextTaste_63 : decode prog_12_method_9_code 63 = .ok (.iload 6, 2) := by decide +kernel
theorem d_Told_nextTaste_65 : decode prog_12_method_9_code 65 = .ok (.iadd, 1) := by decide +kernel
theorem d_Told_nextTaste_66 : decode prog_12_method_9_code 66 = .ok (.istore 4, 2) := by decide +kernel
theorem d_Told_nextTaste_68 : decode prog_12_method_9_code 68 = .ok (.iinc 6 1, 3) := by decide +kernel
theorem d_Told_nextTaste_71 : decode prog_12_method_9_code 71 = .ok (.goto (-41), 3) := by decide +kernel
theorem d_Told_nextTaste_74 : decode prog_12_method_9_code 74 = .ok (.iinc 5 1, 3) := by decide +kernel
theorem d_Told_nextTaste_77 : decode prog_12_method_9_code 77 = .ok (.goto (-63), 3) := by decide +kernel
theorem d_Told_nextTaste_80 : decode prog_12_method_9_code 80 = .ok (.iload 4, 2) := by decide +kernel
theorem d_Told_nextTaste_82 : decode prog_12_method_9_code 82 = .ok (.ireturn, 1) := by decide +kernel
theorem d_Told_mostAlike_0 : decode prog_12_method_10_code 0 = .ok (.aload_n 0, 1) := by decide +kernel
theorem d_Told_mostAlike_1 : decode prog_12_method_10_code 1 = .ok (.getfield 30, 3) := by decide +kernel
theorem d_Told_mostAlike_4 : decode prog_12_method_10_code 4 = .ok (.invokestatic 89, 3) := by decide +kernel
theorem d_Told_mostAlike_7 : decode prog_12_method_10_code 7 = .ok (.iconst 0, 1) := by decide +kernel
theorem d_Told_mostAlike_8 : decode prog_12_method_10_code 8 = .ok (.istore 5, 2) := by decide +kernel
theorem d_Told_mostAlike_10 : decode prog_12_method_10_code 10 = .ok (.iconst 0, 1) := by decide +kernel
theorem d_Told_mostAlike_11 : decode prog_12_method_10_code 11 = .ok (.istore 6, 2) := by decide +kernel
theorem d_Told_mostAlike_13 : decode prog_12_method_10_code 13 = .ok (.iload 6, 2) := by decide +kernel
theorem d_Told_mostAlike_15 : decode prog_12_method_10_code 15 = .ok (.aload_n 0, 1) := by decide +kernel
theorem d_Told_mostAlike_16 : decode prog_12_method_10_code 16 = .ok (.getfield 41, 3) := by decide +kernel
theorem d_Told_mostAlike_19 : decode prog_12_method_10_code 19 = .ok (.if_icmp .ge 55, 3) := by decide +kernel
theorem d_Told_mostAlike_22 : decode prog_12_method_10_code 22 = .ok (.aload_n 0, 1) := by decide +kernel
theorem d_Told_mostAlike_23 : decode prog_12_method_10_code 23 = .ok (.aload_n 1, 1) := by decide +kernel
theorem d_Told_mostAlike_24 : decode prog_12_method_10_code 24 = .ok (.iload_n 2, 1) := by decide +kernel
theorem d_Told_mostAlike_25 : decode prog_12_method_10_code 25 = .ok (.iload 6, 2) := by decide +kernel
theorem d_Told_mostAlike_27 : decode prog_12_method_10_code 27 = .ok (.iload_n 3, 1) := by decide +kernel
theorem d_Told_mostAlike_28 : decode prog_12_method_10_code 28 = .ok (.iload 4, 2) := by decide +kernel
theorem d_Told_mostAlike_30 : decode prog_12_method_10_code 30 = .ok (.invokevirtual 77, 3) := by decide +kernel
theorem d_Told_mostAlike_33 : decode prog_12_method_10_code 33 = .ok (.istore 7, 2) := by decide +kernel
theorem d_Told_mostAlike_35 : decode prog_12_method_10_code 35 = .ok (.aload_n 0, 1) := by decide +kernel
theorem d_Told_mostAlike_36 : decode prog_12_method_10_code 36 = .ok (.getfield 30, 3) := by decide +kernel
theorem d_Told_mostAlike_39 : decode prog_12_method_10_code 39 = .ok (.iload 7, 2) := by decide +kernel
theorem d_Told_mostAlike_41 : decode prog_12_method_10_code 41 = .ok (.invokestatic 73, 3) := by decide +kernel
theorem d_Told_mostAlike_44 : decode prog_12_method_10_code 44 = .ok (.iconst 1, 1) := by decide +kernel
theorem d_Told_mostAlike_45 : decode prog_12_method_10_code 45 = .ok (.iadd, 1) := by decide +kernel
theorem d_Told_mostAlike_46 : decode prog_12_method_10_code 46 = .ok (.istore 8, 2) := by decide +kernel
theorem d_Told_mostAlike_48 : decode prog_12_method_10_code 48 = .ok (.aload_n 0, 1) := by decide +kernel
theorem d_Told_mostAlike_49 : decode prog_12_method_10_code 49 = .ok (.getfield 30, 3) := by decide +kernel
theorem d_Told_mostAlike_52 : decode prog_12_method_10_code 52 = .ok (.iload 7, 2) := by decide +kernel
theorem d_Told_mostAlike_54 : decode prog_12_method_10_code 54 = .ok (.iload 8, 2) := by decide +kernel
theorem d_Told_mostAlike_56 : decode prog_12_method_10_code 56 = .ok (.invokestatic 37, 3) := by decide +kernel
theorem d_Told_mostAlike_59 : decode prog_12_method_10_code 59 = .ok (.iload 5, 2) := by decide +kernel
theorem d_Told_mostAlike_61 : decode prog_12_method_10_code 61 = .ok (.iload 8, 2) := by decide +kernel
theorem d_Told_mostAlike_63 : decode prog_12_method_10_code 63 = .ok (.invokestatic 93, 3) := by decide +kernel
theorem d_Told_mostAlike_66 : decode prog_12_method_10_code 66 = .ok (.istore 5, 2) := by decide +kernel
theorem d_Told_mostAlike_68 : decode prog_12_method_10_code 68 = .ok (.iinc 6 1, 3) := by decide +kernel
theorem d_Told_mostAlike_71 : decode prog_12_method_10_code 71 = .ok (.goto (-58), 3) := by decide +kernel
theorem d_Told_mostAlike_74 : decode prog_12_method_10_code 74 = .ok (.iload 5, 2) := by decide +kernel
theorem d_Told_mostAlike_76 : decode prog_12_method_10_code 76 = .ok (.ireturn, 1) := by decide +kernel
theorem d_Int_bitCount_0 : decode prog_15_method_49_code 0 = .ok (.iload_n 0, 1) := by decide +kernel
theorem d_Int_bitCount_1 : decode prog_15_method_49_code 1 = .ok (.iload_n 0, 1) := by decide +kernel
theorem d_Int_bitCount_2 : decode prog_15_method_49_code 2 = .ok (.iconst 1, 1) := by decide +kernel
theorem d_Int_bitCount_3 : decode prog_15_method_49_code 3 = .ok (.iushr, 1) := by decide +kernel
theorem d_Int_bitCount_4 : decode prog_15_method_49_code 4 = .ok (.ldc_w 265, 3) := by decide +kernel
theorem d_Int_bitCount_7 : decode prog_15_method_49_code 7 = .ok (.iand, 1) := by decide +kernel
theorem d_Int_bitCount_8 : decode prog_15_method_49_code 8 = .ok (.isub, 1) := by decide +kernel
theorem d_Int_bitCount_9 : decode prog_15_method_49_code 9 = .ok (.istore_n 0, 1) := by decide +kernel
theorem d_Int_bitCount_10 : decode prog_15_method_49_code 10 = .ok (.iload_n 0, 1) := by decide +kernel
theorem d_Int_bitCount_11 : decode prog_15_method_49_code 11 = .ok (.ldc_w 266, 3) := by decide +kernel
theorem d_Int_bitCount_14 : decode prog_15_method_49_code 14 = .ok (.iand, 1) := by decide +kernel
theorem d_Int_bitCount_15 : decode prog_15_method_49_code 15 = .ok (.iload_n 0, 1) := by decide +kernel
theorem d_Int_bitCount_16 : decode prog_15_method_49_code 16 = .ok (.iconst 2, 1) := by decide +kernel
theorem d_Int_bitCount_17 : decode prog_15_method_49_code 17 = .ok (.iushr, 1) := by decide +kernel
theorem d_Int_bitCount_18 : decode prog_15_method_49_code 18 = .ok (.ldc_w 266, 3) := by decide +kernel
theorem d_Int_bitCount_21 : decode prog_15_method_49_code 21 = .ok (.iand, 1) := by decide +kernel
theorem d_Int_bitCount_22 : decode prog_15_method_49_code 22 = .ok (.iadd, 1) := by decide +kernel
theorem d_Int_bitCount_23 : decode prog_15_method_49_code 23 = .ok (.istore_n 0, 1) := by decide +kernel
theorem d_Int_bitCount_24 : decode prog_15_method_49_code 24 = .ok (.iload_n 0, 1) := by decide +kernel
theorem d_Int_bitCount_25 : decode prog_15_method_49_code 25 = .ok (.iload_n 0, 1) := by decide +kernel
theorem d_Int_bitCount_26 : decode prog_15_method_49_code 26 = .ok (.iconst 4, 1) := by decide +kernel
theorem d_Int_bitCount_27 : decode prog_15_method_49_code 27 = .ok (.iushr, 1) := by decide +kernel
theorem d_Int_bitCount_28 : decode prog_15_method_49_code 28 = .ok (.iadd, 1) := by decide +kernel
theorem d_Int_bitCount_29 : decode prog_15_method_49_code 29 = .ok (.ldc_w 267, 3) := by decide +kernel
theorem d_Int_bitCount_32 : decode prog_15_method_49_code 32 = .ok (.iand, 1) := by decide +kernel
theorem d_Int_bitCount_33 : decode prog_15_method_49_code 33 = .ok (.istore_n 0, 1) := by decide +kernel
theorem d_Int_bitCount_34 : decode prog_15_method_49_code 34 = .ok (.iload_n 0, 1) := by decide +kernel
theorem d_Int_bitCount_35 : decode prog_15_method_49_code 35 = .ok (.iload_n 0, 1) := by decide +kernel
theorem d_Int_bitCount_36 : decode prog_15_method_49_code 36 = .ok (.bipush 8, 2) := by decide +kernel
theorem d_Int_bitCount_38 : decode prog_15_method_49_code 38 = .ok (.iushr, 1) := by decide +kernel
theorem d_Int_bitCount_39 : decode prog_15_method_49_code 39 = .ok (.iadd, 1) := by decide +kernel
theorem d_Int_bitCount_40 : decode prog_15_method_49_code 40 = .ok (.istore_n 0, 1) := by decide +kernel
theorem d_Int_bitCount_41 : decode prog_15_method_49_code 41 = .ok (.iload_n 0, 1) := by decide +kernel
theorem d_Int_bitCount_42 : decode prog_15_method_49_code 42 = .ok (.iload_n 0, 1) := by decide +kernel
theorem d_Int_bitCount_43 : decode prog_15_method_49_code 43 = .ok (.bipush 16, 2) := by decide +kernel
theorem d_Int_bitCount_45 : decode prog_15_method_49_code 45 = .ok (.iushr, 1) := by decide +kernel
theorem d_Int_bitCount_46 : decode prog_15_method_49_code 46 = .ok (.iadd, 1) := by decide +kernel
theorem d_Int_bitCount_47 : decode prog_15_method_49_code 47 = .ok (.istore_n 0, 1) := by decide +kernel
theorem d_Int_bitCount_48 : decode prog_15_method_49_code 48 = .ok (.iload_n 0, 1) := by decide +kernel
theorem d_Int_bitCount_49 : decode prog_15_method_49_code 49 = .ok (.bipush 63, 2) := by decide +kernel
theorem d_Int_bitCount_51 : decode prog_15_method_49_code 51 = .ok (.iand, 1) := by decide +kernel
theorem d_Int_bitCount_52 : decode prog_15_method_49_code 52 = .ok (.ireturn, 1) := by decide +kernel
end MG1x0
section MG1x1
theorem d_Mod_init_0 : decode prog_14_method_2_code 0 = .ok (.aload_n 0, 1) := by decide +kernel
theorem d_Mod_init_1 : decode prog_14_method_2_code 1 = .ok (.invokespecial 7, 3) := by decide +kernel
theorem d_Mod_init_4 : decode prog_14_method_2_code 4 = .ok (.aload_n 0, 1) := by decide +kernel
theorem d_Mod_init_5 : decode prog_14_method_2_code 5 = .ok (.sipush 2000, 3) := by decide +kernel
theorem d_Mod_init_8 : decode prog_14_method_2_code 8 = .ok (.newarray .byte, 2) := by decide +kernel
theorem d_Mod_init_10 : decode prog_14_method_2_code 10 = .ok (.putfield 13, 3) := by decide +kernel
theorem d_Mod_init_13 : decode prog_14_method_2_code 13 = .ok (.aload_n 0, 1) := by decide +kernel
theorem d_Mod_init_14 : decode prog_14_method_2_code 14 = .ok (.sipush 2000, 3) := by decide +kernel
theorem d_Mod_init_17 : decode prog_14_method_2_code 17 = .ok (.newarray .byte, 2) := by decide +kernel
theorem d_Mod_init_19 : decode prog_14_method_2_code 19 = .ok (.putfield 17, 3) := by decide +kernel
theorem d_Mod_init_22 : decode prog_14_method_2_code 22 = .ok (.aload_n 0, 1) := by decide +kernel
theorem d_Mod_init_23 : decode prog_14_method_2_code 23 = .ok (.sipush 403, 3) := by decide +kernel
theorem d_Mod_init_26 : decode prog_14_method_2_code 26 = .ok (.newarray .int, 2) := by decide +kernel
theorem d_Mod_init_28 : decode prog_14_method_2_code 28 = .ok (.putfield 20, 3) := by decide +kernel
theorem d_Mod_init_31 : decode prog_14_method_2_code 31 = .ok (.aload_n 0, 1) := by decide +kernel
theorem d_Mod_init_32 : decode prog_14_method_2_code 32 = .ok (.sipush 403, 3) := by decide +kernel
theorem d_Mod_init_35 : decode prog_14_method_2_code 35 = .ok (.newarray .int, 2) := by decide +kernel
theorem d_Mod_init_37 : decode prog_14_method_2_code 37 = .ok (.putfield 24, 3) := by decide +kernel
theorem d_Mod_init_40 : decode prog_14_method_2_code 40 = .ok (.aload_n 0, 1) := by decide +kernel
theorem d_Mod_init_41 : decode prog_14_method_2_code 41 = .ok (.sipush 403, 3) := by decide +kernel
theorem d_Mod_init_44 : decode prog_14_method_2_code 44 = .ok (.newarray .int, 2) := by decide +kernel
theorem d_Mod_init_46 : decode prog_14_method_2_code 46 = .ok (.putfield 27, 3) := by decide +kernel
theorem d_Mod_init_49 : decode prog_14_method_2_code 49 = .ok (.aload_n 0, 1) := by decide +kernel
theorem d_Mod_init_50 : decode prog_14_method_2_code 50 = .ok (.sipush 403, 3) := by decide +kernel
theorem d_Mod_init_53 : decode prog_14_method_2_code 53 = .ok (.newarray .long, 2) := by decide +kernel
theorem d_Mod_init_55 : decode prog_14_method_2_code 55 = .ok (.putfield 30, 3) := by decide +kernel
theorem d_Mod_init_58 : decode prog_14_method_2_code 58 = .ok (.aload_n 0, 1) := by decide +kernel
theorem d_Mod_init_59 : decode prog_14_method_2_code 59 = .ok (.bipush 21, 2) := by decide +kernel
theorem d_Mod_init_61 : decode prog_14_method_2_code 61 = .ok (.newarray .long, 2) := by decide +kernel
theorem d_Mod_init_63 : decode prog_14_method_2_code 63 = .ok (.putfield 34, 3) := by decide +kernel
theorem d_Mod_init_66 : decode prog_14_method_2_code 66 = .ok (.aload_n 0, 1) := by decide +kernel
theorem d_Mod_init_67 : decode prog_14_method_2_code 67 = .ok (.iconst (-1), 1) := by decide +kernel
theorem d_Mod_init_68 : decode prog_14_method_2_code 68 = .ok (.putfield 37, 3) := by decide +kernel
theorem d_Mod_init_71 : decode prog_14_method_2_code 71 = .ok (.aload_n 0, 1) := by decide +kernel
theorem d_Mod_init_72 : decode prog_14_method_2_code 72 = .ok (.bipush 21, 2) := by decide +kernel
theorem d_Mod_init_74 : decode prog_14_method_2_code 74 = .ok (.newarray .long, 2) := by decide +kernel
theorem d_Mod_init_76 : decode prog_14_method_2_code 76 = .ok (.putfield 40, 3) := by decide +kernel
theorem d_Mod_init_79 : decode prog_14_method_2_code 79 = .ok (.aload_n 0, 1) := by decide +kernel
theorem d_Mod_init_80 : decode prog_14_method_2_code 80 = .ok (.bipush 21, 2) := by decide +kernel
theorem d_Mod_init_82 : decode prog_14_method_2_code 82 = .ok (.newarray .int, 2) := by decide +kernel
theorem d_Mod_init_84 : decode prog_14_method_2_code 84 = .ok (.putfield 43, 3) := by decide +kernel
theorem d_Mod_init_87 : decode prog_14_method_2_code 87 = .ok (.aload_n 0, 1) := by decide +kernel
theorem d_Mod_init_88 : decode prog_14_method_2_code 88 = .ok (.iconst 2, 1) := by decide +kernel
theorem d_Mod_init_89 : decode prog_14_method_2_code 89 = .ok (.newarray .int, 2) := by decide +kernel
theorem d_Mod_init_91 : decode prog_14_method_2_code 91 = .ok (.putfield 46, 3) := by decide +kernel
theorem d_Mod_init_94 : decode prog_14_method_2_code 94 = .ok (.aload_n 0, 1) := by decide +kernel
theorem d_Mod_init_95 : decode prog_14_method_2_code 95 = .ok (.bipush 12, 2) := by decide +kernel
theorem d_Mod_init_97 : decode prog_14_method_2_code 97 = .ok (.newarray .int, 2) := by decide +kernel
theorem d_Mod_init_99 : decode prog_14_method_2_code 99 = .ok (.putfield 49, 3) := by decide +kernel
theorem d_Mod_init_102 : decode prog_14_method_2_code 102 = .ok (.aload_n 0, 1) := by decide +kernel
theorem d_Mod_init_103 : decode prog_14_method_2_code 103 = .ok (.bipush 12, 2) := by decide +kernel
theorem d_Mod_init_105 : decode prog_14_method_2_code 105 = .ok (.newarray .int, 2) := by decide +kernel
theorem d_Mod_init_107 : decode prog_14_method_2_code 107 = .ok (.putfield 52, 3) := by decide +kernel
theorem d_Mod_init_110 : decode prog_14_method_2_code 110 = .ok (.aload_n 0, 1) := by decide +kernel
theorem d_Mod_init_111 : decode prog_14_method_2_code 111 = .ok (.bipush 36, 2) := by decide +kernel
theorem d_Mod_init_113 : decode prog_14_method_2_code 113 = .ok (.newarray .int, 2) := by decide +kernel
theorem d_Mod_init_115 : decode prog_14_method_2_code 115 = .ok (.putfield 55, 3) := by decide +kernel
theorem d_Mod_init_118 : decode prog_14_method_2_code 118 = .ok (.aload_n 0, 1) := by decide +kernel
theorem d_Mod_init_119 : decode prog_14_method_2_code 119 = .ok (.iconst 2, 1) := by decide +kernel
theorem d_Mod_init_120 : decode prog_14_method_2_code 120 = .ok (.newarray .int, 2) := by decide +kernel
theorem d_Mod_init_122 : decode prog_14_method_2_code 122 = .ok (.putfield 58, 3) := by decide +kernel
theorem d_Mod_init_125 : decode prog_14_method_2_code 125 = .ok (.aload_n 0, 1) := by decide +kernel
theorem d_Mod_init_126 : decode prog_14_method_2_code 126 = .ok (.bipush 10, 2) := by decide +kernel
theorem d_Mod_init_128 : decode prog_14_method_2_code 128 = .ok (.newarray .int, 2) := by decide +kernel
theorem d_Mod_init_130 : decode prog_14_method_2_code 130 = .ok (.putfield 61, 3) := by decide +kernel
theorem d_Mod_init_133 : decode prog_14_method_2_code 133 = .ok (.aload_n 0, 1) := by decide +kernel
theorem d_Mod_init_134 : decode prog_14_method_2_code 134 = .ok (.bipush 60, 2) := by decide +kernel
theorem d_Mod_init_136 : decode prog_14_method_2_code 136 = .ok (.newarray .int, 2) := by decide +kernel
theorem d_Mod_init_138 : decode prog_14_method_2_code 138 = .ok (.putfield 64, 3) := by decide +kernel
theorem d_Mod_init_141 : decode prog_14_method_2_code 141 = .ok (.aload_n 0, 1) := by decide +kernel
theorem d_Mod_init_142 : decode prog_14_method_2_code 142 = .ok (.iconst 2, 1) := by decide +kernel
theorem d_Mod_init_143 : decode prog_14_method_2_code 143 = .ok (.newarray .int, 2) := by decide +kernel
theorem d_Mod_init_145 : decode prog_14_method_2_code 145 = .ok (.putfield 67, 3) := by decide +kernel
theorem d_Mod_init_148 : decode prog_14_method_2_code 148 = .ok (.aload_n 0, 1) := by decide +kernel
theorem d_Mod_init_149 : decode prog_14_method_2_code 149 = .ok (.bipush 8, 2) := by decide +kernel
theorem d_Mod_init_151 : decode prog_14_method_2_code 151 = .ok (.newarray .int, 2) := by decide +kernel
theorem d_Mod_init_153 : decode prog_14_method_2_code 153 = .ok (.putfield 70, 3) := by decide +kernel
theorem d_Mod_init_156 : decode prog_14_method_2_code 156 = .ok (.aload_n 0, 1) := by decide +kernel
theorem d_Mod_init_157 : decode prog_14_method_2_code 157 = .ok (.iconst 2, 1) := by decide +kernel
theorem d_Mod_init_158 : decode prog_14_method_2_code 158 = .ok (.newarray .int, 2) := by decide +kernel
theorem d_Mod_init_160 : decode prog_14_method_2_code 160 = .ok (.putfield 73, 3) := by decide +kernel
theorem d_Mod_init_163 : decode prog_14_method_2_code 163 = .ok (.aload_n 0, 1) := by decide +kernel
theorem d_Mod_init_164 : decode prog_14_method_2_code 164 = .ok (.bipush 12, 2) := by decide +kernel
theorem d_Mod_init_166 : decode prog_14_method_2_code 166 = .ok (.newarray .int, 2) := by decide +kernel
theorem d_Mod_init_168 : decode prog_14_method_2_code 168 = .ok (.putfield 76, 3) := by decide +kernel
theorem d_Mod_init_171 : decode prog_14_method_2_code 171 = .ok (.aload_n 0, 1) := by decide +kernel
theorem d_Mod_init_172 : decode prog_14_method_2_code 172 = .ok (.bipush 12, 2) := by decide +kernel
theorem d_Mod_init_174 : decode prog_14_method_2_code 174 = .ok (.newarray .int, 2) := by decide +kernel
theorem d_Mod_init_176 : decode prog_14_method_2_code 176 = .ok (.putfield 79, 3) := by decide +kernel
theorem d_Mod_init_179 : decode prog_14_method_2_code 179 = .ok (.aload_n 0, 1) := by decide +kernel
theorem d_Mod_init_180 : decode prog_14_method_2_code 180 = .ok (.iconst 2, 1) := by decide +kernel
theorem d_Mod_init_181 : decode prog_14_method_2_code 181 = .ok (.newarray .int, 2) := by decide +kernel
theorem d_Mod_init_183 : decode prog_14_method_2_code 183 = .ok (.putfield 82, 3) := by decide +kernel
theorem d_Mod_init_186 : decode prog_14_method_2_code 186 = .ok (.aload_n 0, 1) := by decide +kernel
theorem d_Mod_init_187 : decode prog_14_method_2_code 187 = .ok (.bipush 8, 2) := by decide +kernel
theorem d_Mod_init_189 : decode prog_14_method_2_code 189 = .ok (.newarray .int, 2) := by decide +kernel
theorem d_Mod_init_191 : decode prog_14_method_2_code 191 = .ok (.putfield 85, 3) := by decide +kernel
theorem d_Mod_init_194 : decode prog_14_method_2_code 194 = .ok (.aload_n 0, 1) := by decide +kernel
theorem d_Mod_init_195 : decode prog_14_method_2_code 195 = .ok (.bipush 8, 2) := by decide +kernel
theorem d_Mod_init_197 : decode prog_14_method_2_code 197 = .ok (.newarray .int, 2) := by decide +kernel
theorem d_Mod_init_199 : decode prog_14_method_2_code 199 = .ok (.putfield 88, 3) := by decide +kernel
theorem d_Mod_init_202 : decode prog_14_method_2_code 202 = .ok (.aload_n 0, 1) := by decide +kernel
theorem d_Mod_init_203 : decode prog_14_method_2_code 203 = .ok (.sipush 260, 3) := by decide +kernel
theorem d_Mod_init_206 : decode prog_14_method_2_code 206 = .ok (.newarray .boolean, 2) := by decide +kernel
theorem d_Mod_init_208 : decode prog_14_method_2_code 208 = .ok (.putfield 91, 3) := by decide +kernel
theorem d_Mod_init_211 : decode prog_14_method_2_code 211 = .ok (.aload_n 0, 1) := by decide +kernel
theorem d_Mod_init_212 : decode prog_14_method_2_code 212 = .ok (.sipush 260, 3) := by decide +kernel
theorem d_Mod_init_215 : decode prog_14_method_2_code 215 = .ok (.newarray .int, 2) := by decide +kernel
theorem d_Mod_init_217 : decode prog_14_method_2_code 217 = .ok (.putfield 95, 3) := by decide +kernel
theorem d_Mod_init_220 : decode prog_14_method_2_code 220 = .ok (.aload_n 0, 1) := by decide +kernel
theorem d_Mod_init_221 : decode prog_14_method_2_code 221 = .ok (.sipush 260, 3) := by decide +kernel
theorem d_Mod_init_224 : decode prog_14_method_2_code 224 = .ok (.newarray .int, 2) := by decide +kernel
theorem d_Mod_init_226 : decode prog_14_method_2_code 226 = .ok (.putfield 98, 3) := by decide +kernel
theorem d_Mod_init_229 : decode prog_14_method_2_code 229 = .ok (.aload_n 0, 1) := by decide +kernel
theorem d_Mod_init_230 : decode prog_14_method_2_code 230 = .ok (.sipush 260, 3) := by decide +kernel
theorem d_Mod_init_233 : decode prog_14_method_2_code 233 = .ok (.newarray .int, 2) := by decide +kernel
theorem d_Mod_init_235 : decode prog_14_method_2_code 235 = .ok (.putfield 101, 3) := by decide +kernel
theorem d_Mod_init_238 : decode prog_14_method_2_code 238 = .ok (.aload_n 0, 1) := by decide +kernel
theorem d_Mod_init_239 : decode prog_14_method_2_code 239 = .ok (.sipush 260, 3) := by decide +kernel
theorem d_Mod_init_242 : decode prog_14_method_2_code 242 = .ok (.newarray .int, 2) := by decide +kernel
theorem d_Mod_init_244 : decode prog_14_method_2_code 244 = .ok (.putfield 104, 3) := by decide +kernel
theorem d_Mod_init_247 : decode prog_14_method_2_code 247 = .ok (.aload_n 0, 1) := by decide +kernel
theorem d_Mod_init_248 : decode prog_14_method_2_code 248 = .ok (.sipush 840, 3) := by decide +kernel
theorem d_Mod_init_251 : decode prog_14_method_2_code 251 = .ok (.newarray .int, 2) := by decide +kernel
theorem d_Mod_init_253 : decode prog_14_method_2_code 253 = .ok (.putfield 107, 3) := by decide +kernel
theorem d_Mod_init_256 : decode prog_14_method_2_code 256 = .ok (.aload_n 0, 1) := by decide +kernel
theorem d_Mod_init_257 : decode prog_14_method_2_code 257 = .ok (.sipush 840, 3) := by decide +kernel
theorem d_Mod_init_260 : decode prog_14_method_2_code 260 = .ok (.newarray .int, 2) := by decide +kernel
theorem d_Mod_init_262 : decode prog_14_method_2_code 262 = .ok (.putfield 110, 3) := by decide +kernel
theorem d_Mod_init_265 : decode prog_14_method_2_code 265 = .ok (.aload_n 0, 1) := by decide +kernel
theorem d_Mod_init_266 : decode prog_14_method_2_code 266 = .ok (.bipush 64, 2) := by decide +kernel
theorem d_Mod_init_268 : decode prog_14_method_2_code 268 = .ok (.newarray .int, 2) := by decide +kernel
theorem d_Mod_init_270 : decode prog_14_method_2_code 270 = .ok (.putfield 113, 3) := by decide +kernel
theorem d_Mod_init_273 : decode prog_14_method_2_code 273 = .ok (.aload_n 0, 1) := by decide +kernel
theorem d_Mod_init_274 : decode prog_14_method_2_code 274 = .ok (.bipush 9, 2) := by decide +kernel
theorem d_Mod_init_276 : decode prog_14_method_2_code 276 = .ok (.newarray .int, 2) := by decide +kernel
theorem d_Mod_init_278 : decode prog_14_method_2_code 278 = .ok (.putfield 116, 3) := by decide +kernel
theorem d_Mod_init_281 : decode prog_14_method_2_code 281 = .ok (.aload_n 0, 1) := by decide +kernel
theorem d_Mod_init_282 : decode prog_14_method_2_code 282 = .ok (.sipush 400, 3) := by decide +kernel
theorem d_Mod_init_285 : decode prog_14_method_2_code 285 = .ok (.newarray .int, 2) := by decide +kernel
theorem d_Mod_init_287 : decode prog_14_method_2_code 287 = .ok (.putfield 119, 3) := by decide +kernel
theorem d_Mod_init_290 : decode prog_14_method_2_code 290 = .ok (.aload_n 0, 1) := by decide +kernel
theorem d_Mod_init_291 : decode prog_14_method_2_code 291 = .ok (.bipush 38, 2) := by decide +kernel
theorem d_Mod_init_293 : decode prog_14_method_2_code 293 = .ok (.newarray .int, 2) := by decide +kernel
theorem d_Mod_init_295 : decode prog_14_method_2_code 295 = .ok (.putfield 122, 3) := by decide +kernel
theorem d_Mod_init_298 : decode prog_14_method_2_code 298 = .ok (.aload_n 0, 1) := by decide +kernel
theorem d_Mod_init_299 : decode prog_14_method_2_code 299 = .ok (.bipush 38, 2) := by decide +kernel
theorem d_Mod_init_301 : decode prog_14_method_2_code 301 = .ok (.newarray .int, 2) := by decide +kernel
theorem d_Mod_init_303 : decode prog_14_method_2_code 303 = .ok (.putfield 125, 3) := by decide +kernel
theorem d_Mod_init_306 : decode prog_14_method_2_code 306 = .ok (.aload_n 0, 1) := by decide +kernel
theorem d_Mod_init_307 : decode prog_14_method_2_code 307 = .ok (.bipush 6, 2) := by decide +kernel
theorem d_Mod_init_309 : decode prog_14_method_2_code 309 = .ok (.newarray .int, 2) := by decide +kernel
theorem d_Mod_init_311 : decode prog_14_method_2_code 311 = .ok (.putfield 128, 3) := by decide +kernel
theorem d_Mod_init_314 : decode prog_14_method_2_code 314 = .ok (.aload_n 0, 1) := by decide +kernel
theorem d_Mod_init_315 : decode prog_14_method_2_code 315 = .ok (.bipush 6, 2) := by decide +kernel
theorem d_Mod_init_317 : decode prog_14_method_2_code 317 = .ok (.newarray .int, 2) := by decide +kernel
theorem d_Mod_init_319 : decode prog_14_method_2_code 319 = .ok (.putfield 131, 3) := by decide +kernel
theorem d_Mod_init_322 : decode prog_14_method_2_code 322 = .ok (.aload_n 0, 1) := by decide +kernel
theorem d_Mod_init_323 : decode prog_14_method_2_code 323 = .ok (.sipush 1520, 3) := by decide +kernel
theorem d_Mod_init_326 : decode prog_14_method_2_code 326 = .ok (.newarray .int, 2) := by decide +kernel
theorem d_Mod_init_328 : decode prog_14_method_2_code 328 = .ok (.putfield 134, 3) := by decide +kernel
theorem d_Mod_init_331 : decode prog_14_method_2_code 331 = .ok (.aload_n 0, 1) := by decide +kernel
theorem d_Mod_init_332 : decode prog_14_method_2_code 332 = .ok (.bipush 20, 2) := by decide +kernel
theorem d_Mod_init_334 : decode prog_14_method_2_code 334 = .ok (.newarray .int, 2) := by decide +kernel
theorem d_Mod_init_336 : decode prog_14_method_2_code 336 = .ok (.putfield 137, 3) := by decide +kernel
theorem d_Mod_init_339 : decode prog_14_method_2_code 339 = .ok (.aload_n 0, 1) := by decide +kernel
theorem d_Mod_init_340 : decode prog_14_method_2_code 340 = .ok (.bipush 20, 2) := by decide +kernel
theorem d_Mod_init_342 : decode prog_14_method_2_code 342 = .ok (.newarray .int, 2) := by decide +kernel
theorem d_Mod_init_344 : decode prog_14_method_2_code 344 = .ok (.putfield 140, 3) := by decide +kernel
theorem d_Mod_init_347 : decode prog_14_method_2_code 347 = .ok (.aload_n 0, 1) := by decide +kernel
theorem d_Mod_init_348 : decode prog_14_method_2_code 348 = .ok (.bipush 20, 2) := by decide +kernel
theorem d_Mod_init_350 : decode prog_14_method_2_code 350 = .ok (.newarray .int, 2) := by decide +kernel
theorem d_Mod_init_352 : decode prog_14_method_2_code 352 = .ok (.putfield 143, 3) := by decide +kernel
theorem d_Mod_init_355 : decode prog_14_method_2_code 355 = .ok (.aload_n 0, 1) := by decide +kernel
theorem d_Mod_init_356 : decode prog_14_method_2_code 356 = .ok (.sipush 3000, 3) := by decide +kernel
theorem d_Mod_init_359 : decode prog_14_method_2_code 359 = .ok (.newarray .int, 2) := by decide +kernel
theorem d_Mod_init_361 : decode prog_14_method_2_code 361 = .ok (.putfield 146, 3) := by decide +kernel
theorem d_Mod_init_364 : decode prog_14_method_2_code 364 = .ok (.aload_n 0, 1) := by decide +kernel
theorem d_Mod_init_365 : decode prog_14_method_2_code 365 = .ok (.iconst 3, 1) := by decide +kernel
theorem d_Mod_init_366 : decode prog_14_method_2_code 366 = .ok (.newarray .boolean, 2) := by decide +kernel
theorem d_Mod_init_368 : decode prog_14_method_2_code 368 = .ok (.putfield 149, 3) := by decide +kernel
theorem d_Mod_init_371 : decode prog_14_method_2_code 371 = .ok (.aload_n 0, 1) := by decide +kernel
theorem d_Mod_init_372 : decode prog_14_method_2_code 372 = .ok (.bipush 114, 2) := by decide +kernel
theorem d_Mod_init_374 : decode prog_14_method_2_code 374 = .ok (.newarray .int, 2) := by decide +kernel
theorem d_Mod_init_376 : decode prog_14_method_2_code 376 = .ok (.putfield 152, 3) := by decide +kernel
theorem d_Mod_init_379 : decode prog_14_method_2_code 379 = .ok (.aload_n 0, 1) := by decide +kernel
theorem d_Mod_init_380 : decode prog_14_method_2_code 380 = .ok (.iconst 0, 1) := by decide +kernel
theorem d_Mod_init_381 : decode prog_14_method_2_code 381 = .ok (.invokevirtual 155, 3) := by decide +kernel
theorem d_Mod_init_384 : decode prog_14_method_2_code 384 = .ok (.aload_n 0, 1) := by decide +kernel
theorem d_Mod_init_385 : decode prog_14_method_2_code 385 = .ok (.getfield 34, 3) := by decide +kernel
theorem d_Mod_init_388 : decode prog_14_method_2_code 388 = .ok (.iconst 0, 1) := by decide +kernel
theorem d_Mod_init_389 : decode prog_14_method_2_code 389 = .ok (.bipush 102, 2) := by decide +kernel
theorem d_Mod_init_391 : decode prog_14_method_2_code 391 = .ok (.bipush 111, 2) := by decide +kernel
theorem d_Mod_init_393 : decode prog_14_method_2_code 393 = .ok (.bipush 111, 2) := by decide +kernel
theorem d_Mod_init_395 : decode prog_14_method_2_code 395 = .ok (.bipush 100, 2) := by decide +kernel
theorem d_Mod_init_397 : decode prog_14_method_2_code 397 = .ok (.iconst 0, 1) := by decide +kernel
theorem d_Mod_init_398 : decode prog_14_method_2_code 398 = .ok (.iconst 0, 1) := by decide +kernel
theorem d_Mod_init_399 : decode prog_14_method_2_code 399 = .ok (.iconst 0, 1) := by decide +kernel
theorem d_Mod_init_400 : decode prog_14_method_2_code 400 = .ok (.invokestatic 159, 3) := by decide +kernel
theorem d_Mod_init_403 : decode prog_14_method_2_code 403 = .ok (.lastore, 1) := by decide +kernel
theorem d_Mod_init_404 : decode prog_14_method_2_code 404 = .ok (.aload_n 0, 1) := by decide +kernel
theorem d_Mod_init_405 : decode prog_14_method_2_code 405 = .ok (.getfield 34, 3) := by decide +kernel
theorem d_Mod_init_408 : decode prog_14_method_2_code 408 = .ok (.iconst 1, 1) := by decide +kernel
theorem d_Mod_init_409 : decode prog_14_method_2_code 409 = .ok (.bipush 100, 2) := by decide +kernel
theorem d_Mod_init_411 : decode prog_14_method_2_code 411 = .ok (.bipush 105, 2) := by decide +kernel
theorem d_Mod_init_413 : decode prog_14_method_2_code 413 = .ok (.bipush 115, 2) := by decide +kernel
theorem d_Mod_init_415 : decode prog_14_method_2_code 415 = .ok (.bipush 104, 2) := by decide +kernel
theorem d_Mod_init_417 : decode prog_14_method_2_code 417 = .ok (.iconst 0, 1) := by decide +kernel
theorem d_Mod_init_418 : decode prog_14_method_2_code 418 = .ok (.iconst 0, 1) := by decide +kernel
theorem d_Mod_init_419 : decode prog_14_method_2_code 419 = .ok (.iconst 0, 1) := by decide +kernel
theorem d_Mod_init_420 : decode prog_14_method_2_code 420 = .ok (.invokestatic 159, 3) := by decide +kernel
theorem d_Mod_init_423 : decode prog_14_method_2_code 423 = .ok (.lastore, 1) := by decide +kernel
theorem d_Mod_init_424 : decode prog_14_method_2_code 424 = .ok (.aload_n 0, 1) := by decide +kernel
theorem d_Mod_init_425 : decode prog_14_method_2_code 425 = .ok (.getfield 34, 3) := by decide +kernel
theorem d_Mod_init_428 : decode prog_14_method_2_code 428 = .ok (.iconst 2, 1) := by decide +kernel
theorem d_Mod_init_429 : decode prog_14_method_2_code 429 = .ok (.bipush 103, 2) := by decide +kernel
theorem d_Mod_init_431 : decode prog_14_method_2_code 431 = .ok (.bipush 117, 2) := by decide +kernel
theorem d_Mod_init_433 : decode prog_14_method_2_code 433 = .ok (.bipush 101, 2) := by decide +kernel
theorem d_Mod_init_435 : decode prog_14_method_2_code 435 = .ok (.bipush 115, 2) := by decide +kernel
theorem d_Mod_init_437 : decode prog_14_method_2_code 437 = .ok (.bipush 116, 2) := by decide +kernel
theorem d_Mod_init_439 : decode prog_14_method_2_code 439 = .ok (.iconst 0, 1) := by decide +kernel
theorem d_Mod_init_440 : decode prog_14_method_2_code 440 = .ok (.iconst 0, 1) := by decide +kernel
theorem d_Mod_init_441 : decode prog_14_method_2_code 441 = .ok (.invokestatic 159, 3) := by decide +kernel
theorem d_Mod_init_444 : decode prog_14_method_2_code 444 = .ok (.lastore, 1) := by decide +kernel
theorem d_Mod_init_445 : decode prog_14_method_2_code 445 = .ok (.aload_n 0, 1) := by decide +kernel
theorem d_Mod_init_446 : decode prog_14_method_2_code 446 = .ok (.getfield 34, 3) := by decide +kernel
theorem d_Mod_init_449 : decode prog_14_method_2_code 449 = .ok (.iconst 3, 1) := by decide +kernel
theorem d_Mod_init_450 : decode prog_14_method_2_code 450 = .ok (.bipush 100, 2) := by decide +kernel
theorem d_Mod_init_452 : decode prog_14_method_2_code 452 = .ok (.bipush 101, 2) := by decide +kernel
theorem d_Mod_init_454 : decode prog_14_method_2_code 454 = .ok (.bipush 101, 2) := by decide +kernel
theorem d_Mod_init_456 : decode prog_14_method_2_code 456 = .ok (.bipush 100, 2) := by decide +kernel
theorem d_Mod_init_458 : decode prog_14_method_2_code 458 = .ok (.iconst 0, 1) := by decide +kernel
theorem d_Mod_init_459 : decode prog_14_method_2_code 459 = .ok (.iconst 0, 1) := by decide +kernel
theorem d_Mod_init_460 : decode prog_14_method_2_code 460 = .ok (.iconst 0, 1) := by decide +kernel
theorem d_Mod_init_461 : decode prog_14_method_2_code 461 = .ok (.invokestatic 159, 3) := by decide +kernel
theorem d_Mod_init_464 : decode prog_14_method_2_code 464 = .ok (.lastore, 1) := by decide +kernel
theorem d_Mod_init_465 : decode prog_14_method_2_code 465 = .ok (.aload_n 0, 1) := by decide +kernel
theorem d_Mod_init_466 : decode prog_14_method_2_code 466 = .ok (.getfield 34, 3) := by decide +kernel
theorem d_Mod_init_469 : decode prog_14_method_2_code 469 = .ok (.iconst 4, 1) := by decide +kernel
theorem d_Mod_init_470 : decode prog_14_method_2_code 470 = .ok (.bipush 102, 2) := by decide +kernel
theorem d_Mod_init_472 : decode prog_14_method_2_code 472 = .ok (.bipush 111, 2) := by decide +kernel
theorem d_Mod_init_474 : decode prog_14_method_2_code 474 = .ok (.bipush 114, 2) := by decide +kernel
theorem d_Mod_init_476 : decode prog_14_method_2_code 476 = .ok (.bipush 99, 2) := by decide +kernel
theorem d_Mod_init_478 : decode prog_14_method_2_code 478 = .ok (.bipush 101, 2) := by decide +kernel
theorem d_Mod_init_480 : decode prog_14_method_2_code 480 = .ok (.iconst 0, 1) := by decide +kernel
theorem d_Mod_init_481 : decode prog_14_method_2_code 481 = .ok (.iconst 0, 1) := by decide +kernel
theorem d_Mod_init_482 : decode prog_14_method_2_code 482 = .ok (.invokestatic 159, 3) := by decide +kernel
theorem d_Mod_init_485 : decode prog_14_method_2_code 485 = .ok (.lastore, 1) := by decide +kernel
theorem d_Mod_init_486 : decode prog_14_method_2_code 486 = .ok (.aload_n 0, 1) := by decide +kernel
theorem d_Mod_init_487 : decode prog_14_method_2_code 487 = .ok (.getfield 34, 3) := by decide +kernel
theorem d_Mod_init_490 : decode prog_14_method_2_code 490 = .ok (.iconst 5, 1) := by decide +kernel
theorem d_Mod_init_491 : decode prog_14_method_2_code 491 = .ok (.bipush 98, 2) := by decide +kernel
theorem d_Mod_init_493 : decode prog_14_method_2_code 493 = .ok (.bipush 105, 2) := by decide +kernel
theorem d_Mod_init_495 : decode prog_14_method_2_code 495 = .ok (.bipush 110, 2) := by decide +kernel
theorem d_Mod_init_497 : decode prog_14_method_2_code 497 = .ok (.bipush 100, 2) := by decide +kernel
theorem d_Mod_init_499 : decode prog_14_method_2_code 499 = .ok (.bipush 115, 2) := by decide +kernel
theorem d_Mod_init_501 : decode prog_14_method_2_code 501 = .ok (.iconst 0, 1) := by decide +kernel
theorem d_Mod_init_502 : decode prog_14_method_2_code 502 = .ok (.iconst 0, 1) := by decide +kernel
theorem d_Mod_init_503 : decode prog_14_method_2_code 503 = .ok (.invokestatic 159, 3) := by decide +kernel
theorem d_Mod_init_506 : decode prog_14_method_2_code 506 = .ok (.lastore, 1) := by decide +kernel
theorem d_Mod_init_507 : decode prog_14_method_2_code 507 = .ok (.aload_n 0, 1) := by decide +kernel
theorem d_Mod_init_508 : decode prog_14_method_2_code 508 = .ok (.getfield 34, 3) := by decide +kernel
theorem d_Mod_init_511 : decode prog_14_method_2_code 511 = .ok (.bipush 6, 2) := by decide +kernel
theorem d_Mod_init_513 : decode prog_14_method_2_code 513 = .ok (.bipush 102, 2) := by decide +kernel
theorem d_Mod_init_515 : decode prog_14_method_2_code 515 = .ok (.bipush 105, 2) := by decide +kernel
theorem d_Mod_init_517 : decode prog_14_method_2_code 517 = .ok (.bipush 108, 2) := by decide +kernel
theorem d_Mod_init_519 : decode prog_14_method_2_code 519 = .ok (.bipush 108, 2) := by decide +kernel
theorem d_Mod_init_521 : decode prog_14_method_2_code 521 = .ok (.bipush 115, 2) := by decide +kernel
theorem d_Mod_init_523 : decode prog_14_method_2_code 523 = .ok (.iconst 0, 1) := by decide +kernel
theorem d_Mod_init_524 : decode prog_14_method_2_code 524 = .ok (.iconst 0, 1) := by decide +kernel
theorem d_Mod_init_525 : decode prog_14_method_2_code 525 = .ok (.invokestatic 159, 3) := by decide +kernel
theorem d_Mod_init_528 : decode prog_14_method_2_code 528 = .ok (.lastore, 1) := by decide +kernel
theorem d_Mod_init_529 : decode prog_14_method_2_code 529 = .ok (.aload_n 0, 1) := by decide +kernel
theorem d_Mod_init_530 : decode prog_14_method_2_code 530 = .ok (.getfield 34, 3) := by decide +kernel
theorem d_Mod_init_533 : decode prog_14_method_2_code 533 = .ok (.bipush 7, 2) := by decide +kernel
theorem d_Mod_init_535 : decode prog_14_method_2_code 535 = .ok (.bipush 115, 2) := by decide +kernel
theorem d_Mod_init_537 : decode prog_14_method_2_code 537 = .ok (.bipush 108, 2) := by decide +kernel
theorem d_Mod_init_539 : decode prog_14_method_2_code 539 = .ok (.bipush 105, 2) := by decide +kernel
theorem d_Mod_init_541 : decode prog_14_method_2_code 541 = .ok (.bipush 112, 2) := by decide +kernel
theorem d_Mod_init_543 : decode prog_14_method_2_code 543 = .ok (.bipush 115, 2) := by decide +kernel
theorem d_Mod_init_545 : decode prog_14_method_2_code 545 = .ok (.iconst 0, 1) := by decide +kernel
theorem d_Mod_init_546 : decode prog_14_method_2_code 546 = .ok (.iconst 0, 1) := by decide +kernel
theorem d_Mod_init_547 : decode prog_14_method_2_code 547 = .ok (.invokestatic 159, 3) := by decide +kernel
theorem d_Mod_init_550 : decode prog_14_method_2_code 550 = .ok (.lastore, 1) := by decide +kernel
theorem d_Mod_init_551 : decode prog_14_method_2_code 551 = .ok (.aload_n 0, 1) := by decide +kernel
theorem d_Mod_init_552 : decode prog_14_method_2_code 552 = .ok (.getfield 34, 3) := by decide +kernel
theorem d_Mod_init_555 : decode prog_14_method_2_code 555 = .ok (.bipush 8, 2) := by decide +kernel
theorem d_Mod_init_557 : decode prog_14_method_2_code 557 = .ok (.bipush 115, 2) := by decide +kernel
theorem d_Mod_init_559 : decode prog_14_method_2_code 559 = .ok (.bipush 101, 2) := by decide +kernel
theorem d_Mod_init_561 : decode prog_14_method_2_code 561 = .ok (.bipush 101, 2) := by decide +kernel
theorem d_Mod_init_563 : decode prog_14_method_2_code 563 = .ok (.bipush 100, 2) := by decide +kernel
theorem d_Mod_init_565 : decode prog_14_method_2_code 565 = .ok (.iconst 0, 1) := by decide +kernel
theorem d_Mod_init_566 : decode prog_14_method_2_code 566 = .ok (.iconst 0, 1) := by decide +kernel
theorem d_Mod_init_567 : decode prog_14_method_2_code 567 = .ok (.iconst 0, 1) := by decide +kernel
theorem d_Mod_init_568 : decode prog_14_method_2_code 568 = .ok (.invokestatic 159, 3) := by decide +kernel
theorem d_Mod_init_571 : decode prog_14_method_2_code 571 = .ok (.lastore, 1) := by decide +kernel
theorem d_Mod_init_572 : decode prog_14_method_2_code 572 = .ok (.aload_n 0, 1) := by decide +kernel
theorem d_Mod_init_573 : decode prog_14_method_2_code 573 = .ok (.getfield 34, 3) := by decide +kernel
theorem d_Mod_init_576 : decode prog_14_method_2_code 576 = .ok (.bipush 9, 2) := by decide +kernel
theorem d_Mod_init_578 : decode prog_14_method_2_code 578 = .ok (.bipush 105, 2) := by decide +kernel
theorem d_Mod_init_580 : decode prog_14_method_2_code 580 = .ok (.bipush 102, 2) := by decide +kernel
theorem d_Mod_init_582 : decode prog_14_method_2_code 582 = .ok (.iconst 0, 1) := by decide +kernel
theorem d_Mod_init_583 : decode prog_14_method_2_code 583 = .ok (.iconst 0, 1) := by decide +kernel
theorem d_Mod_init_584 : decode prog_14_method_2_code 584 = .ok (.iconst 0, 1) := by decide +kernel
theorem d_Mod_init_585 : decode prog_14_method_2_code 585 = .ok (.iconst 0, 1) := by decide +kernel
theorem d_Mod_init_586 : decode prog_14_method_2_code 586 = .ok (.iconst 0, 1) := by decide +kernel
theorem d_Mod_init_587 : decode prog_14_method_2_code 587 = .ok (.invokestatic 159, 3) := by decide +kernel
theorem d_Mod_init_590 : decode prog_14_method_2_code 590 = .ok (.lastore, 1) := by decide +kernel
theorem d_Mod_init_591 : decode prog_14_method_2_code 591 = .ok (.aload_n 0, 1) := by decide +kernel
theorem d_Mod_init_592 : decode prog_14_method_2_code 592 = .ok (.getfield 34, 3) := by decide +kernel
theorem d_Mod_init_595 : decode prog_14_method_2_code 595 = .ok (.bipush 10, 2) := by decide +kernel
theorem d_Mod_init_597 : decode prog_14_method_2_code 597 = .ok (.bipush 116, 2) := by decide +kernel
theorem d_Mod_init_599 : decode prog_14_method_2_code 599 = .ok (.bipush 104, 2) := by decide +kernel
theorem d_Mod_init_601 : decode prog_14_method_2_code 601 = .ok (.bipush 101, 2) := by decide +kernel
theorem d_Mod_init_603 : decode prog_14_method_2_code 603 = .ok (.bipush 110, 2) := by decide +kernel
theorem d_Mod_init_605 : decode prog_14_method_2_code 605 = .ok (.iconst 0, 1) := by decide +kernel
theorem d_Mod_init_606 : decode prog_14_method_2_code 606 = .ok (.iconst 0, 1) := by decide +kernel
theorem d_Mod_init_607 : decode prog_14_method_2_code 607 = .ok (.iconst 0, 1) := by decide +kernel
theorem d_Mod_init_608 : decode prog_14_method_2_code 608 = .ok (.invokestatic 159, 3) := by decide +kernel
theorem d_Mod_init_611 : decode prog_14_method_2_code 611 = .ok (.lastore, 1) := by decide +kernel
theorem d_Mod_init_612 : decode prog_14_method_2_code 612 = .ok (.aload_n 0, 1) := by decide +kernel
theorem d_Mod_init_613 : decode prog_14_method_2_code 613 = .ok (.getfield 34, 3) := by decide +kernel
theorem d_Mod_init_616 : decode prog_14_method_2_code 616 = .ok (.bipush 11, 2) := by decide +kernel
theorem d_Mod_init_618 : decode prog_14_method_2_code 618 = .ok (.bipush 101, 2) := by decide +kernel
theorem d_Mod_init_620 : decode prog_14_method_2_code 620 = .ok (.bipush 108, 2) := by decide +kernel
theorem d_Mod_init_622 : decode prog_14_method_2_code 622 = .ok (.bipush 115, 2) := by decide +kernel
theorem d_Mod_init_624 : decode prog_14_method_2_code 624 = .ok (.bipush 101, 2) := by decide +kernel
theorem d_Mod_init_626 : decode prog_14_method_2_code 626 = .ok (.iconst 0, 1) := by decide +kernel
theorem d_Mod_init_627 : decode prog_14_method_2_code 627 = .ok (.iconst 0, 1) := by decide +kernel
theorem d_Mod_init_628 : decode prog_14_method_2_code 628 = .ok (.iconst 0, 1) := by decide +kernel
theorem d_Mod_init_629 : decode prog_14_method_2_code 629 = .ok (.invokestatic 159, 3) := by decide +kernel
theorem d_Mod_init_632 : decode prog_14_method_2_code 632 = .ok (.lastore, 1) := by decide +kernel
theorem d_Mod_init_633 : decode prog_14_method_2_code 633 = .ok (.aload_n 0, 1) := by decide +kernel
theorem d_Mod_init_634 : decode prog_14_method_2_code 634 = .ok (.getfield 34, 3) := by decide +kernel
theorem d_Mod_init_637 : decode prog_14_method_2_code 637 = .ok (.bipush 12, 2) := by decide +kernel
theorem d_Mod_init_639 : decode prog_14_method_2_code 639 = .ok (.bipush 115, 2) := by decide +kernel
theorem d_Mod_init_641 : decode prog_14_method_2_code 641 = .ok (.bipush 117, 2) := by decide +kernel
theorem d_Mod_init_643 : decode prog_14_method_2_code 643 = .ok (.bipush 109, 2) := by decide +kernel
theorem d_Mod_init_645 : decode prog_14_method_2_code 645 = .ok (.iconst 0, 1) := by decide +kernel
theorem d_Mod_init_646 : decode prog_14_method_2_code 646 = .ok (.iconst 0, 1) := by decide +kernel
theorem d_Mod_init_647 : decode prog_14_method_2_code 647 = .ok (.iconst 0, 1) := by decide +kernel
theorem d_Mod_init_648 : decode prog_14_method_2_code 648 = .ok (.iconst 0, 1) := by decide +kernel
theorem d_Mod_init_649 : decode prog_14_method_2_code 649 = .ok (.invokestatic 159, 3) := by decide +kernel
theorem d_Mod_init_652 : decode prog_14_method_2_code 652 = .ok (.lastore, 1) := by decide +kernel
theorem d_Mod_init_653 : decode prog_14_method_2_code 653 = .ok (.aload_n 0, 1) := by decide +kernel
theorem d_Mod_init_654 : decode prog_14_method_2_code 654 = .ok (.getfield 34, 3) := by decide +kernel
theorem d_Mod_init_657 : decode prog_14_method_2_code 657 = .ok (.bipush 13, 2) := by decide +kernel
theorem d_Mod_init_659 : decode prog_14_method_2_code 659 = .ok (.bipush 104, 2) := by decide +kernel
theorem d_Mod_init_661 : decode prog_14_method_2_code 661 = .ok (.bipush 101, 2) := by decide +kernel
theorem d_Mod_init_663 : decode prog_14_method_2_code 663 = .ok (.bipush 97, 2) := by decide +kernel
theorem d_Mod_init_665 : decode prog_14_method_2_code 665 = .ok (.bipush 116, 2) := by decide +kernel
theorem d_Mod_init_667 : decode prog_14_method_2_code 667 = .ok (.iconst 0, 1) := by decide +kernel
theorem d_Mod_init_668 : decode prog_14_method_2_code 668 = .ok (.iconst 0, 1) := by decide +kernel
theorem d_Mod_init_669 : decode prog_14_method_2_code 669 = .ok (.iconst 0, 1) := by decide +kernel
theorem d_Mod_init_670 : decode prog_14_method_2_code 670 = .ok (.invokestatic 159, 3) := by decide +kernel
theorem d_Mod_init_673 : decode prog_14_method_2_code 673 = .ok (.lastore, 1) := by decide +kernel
theorem d_Mod_init_674 : decode prog_14_method_2_code 674 = .ok (.aload_n 0, 1) := by decide +kernel
theorem d_Mod_init_675 : decode prog_14_method_2_code 675 = .ok (.getfield 34, 3) := by decide +kernel
theorem d_Mod_init_678 : decode prog_14_method_2_code 678 = .ok (.bipush 14, 2) := by decide +kernel
theorem d_Mod_init_680 : decode prog_14_method_2_code 680 = .ok (.bipush 107, 2) := by decide +kernel
theorem d_Mod_init_682 : decode prog_14_method_2_code 682 = .ok (.bipush 105, 2) := by decide +kernel
theorem d_Mod_init_684 : decode prog_14_method_2_code 684 = .ok (.bipush 110, 2) := by decide +kernel
theorem d_Mod_init_686 : decode prog_14_method_2_code 686 = .ok (.bipush 100, 2) := by decide +kernel
theorem d_Mod_init_688 : decode prog_14_method_2_code 688 = .ok (.iconst 0, 1) := by decide +kernel
theorem d_Mod_init_689 : decode prog_14_method_2_code 689 = .ok (.iconst 0, 1) := by decide +kernel
theorem d_Mod_init_690 : decode prog_14_method_2_code 690 = .ok (.iconst 0, 1) := by decide +kernel
theorem d_Mod_init_691 : decode prog_14_method_2_code 691 = .ok (.invokestatic 159, 3) := by decide +kernel
theorem d_Mod_init_694 : decode prog_14_method_2_code 694 = .ok (.lastore, 1) := by decide +kernel
theorem d_Mod_init_695 : decode prog_14_method_2_code 695 = .ok (.aload_n 0, 1) := by decide +kernel
theorem d_Mod_init_696 : decode prog_14_method_2_code 696 = .ok (.getfield 34, 3) := by decide +kernel
theorem d_Mod_init_699 : decode prog_14_method_2_code 699 = .ok (.bipush 15, 2) := by decide +kernel
theorem d_Mod_init_701 : decode prog_14_method_2_code 701 = .ok (.bipush 109, 2) := by decide +kernel
theorem d_Mod_init_703 : decode prog_14_method_2_code 703 = .ok (.bipush 97, 2) := by decide +kernel
theorem d_Mod_init_705 : decode prog_14_method_2_code 705 = .ok (.bipush 110, 2) := by decide +kernel
theorem d_Mod_init_707 : decode prog_14_method_2_code 707 = .ok (.bipush 121, 2) := by decide +kernel
theorem d_Mod_init_709 : decode prog_14_method_2_code 709 = .ok (.iconst 0, 1) := by decide +kernel
theorem d_Mod_init_710 : decode prog_14_method_2_code 710 = .ok (.iconst 0, 1) := by decide +kernel
theorem d_Mod_init_711 : decode prog_14_method_2_code 711 = .ok (.iconst 0, 1) := by decide +kernel
theorem d_Mod_init_712 : decode prog_14_method_2_code 712 = .ok (.invokestatic 159, 3) := by decide +kernel
theorem d_Mod_init_715 : decode prog_14_method_2_code 715 = .ok (.lastore, 1) := by decide +kernel
theorem d_Mod_init_716 : decode prog_14_method_2_code 716 = .ok (.aload_n 0, 1) := by decide +kernel
theorem d_Mod_init_717 : decode prog_14_method_2_code 717 = .ok (.getfield 34, 3) := by decide +kernel
theorem d_Mod_init_720 : decode prog_14_method_2_code 720 = .ok (.bipush 16, 2) := by decide +kernel
theorem d_Mod_init_722 : decode prog_14_method_2_code 722 = .ok (.bipush 100, 2) := by decide +kernel
theorem d_Mod_init_724 : decode prog_14_method_2_code 724 = .ok (.bipush 97, 2) := by decide +kernel
theorem d_Mod_init_726 : decode prog_14_method_2_code 726 = .ok (.bipush 121, 2) := by decide +kernel
theorem d_Mod_init_728 : decode prog_14_method_2_code 728 = .ok (.iconst 0, 1) := by decide +kernel
theorem d_Mod_init_729 : decode prog_14_method_2_code 729 = .ok (.iconst 0, 1) := by decide +kernel
theorem d_Mod_init_730 : decode prog_14_method_2_code 730 = .ok (.iconst 0, 1) := by decide +kernel
theorem d_Mod_init_731 : decode prog_14_method_2_code 731 = .ok (.iconst 0, 1) := by decide +kernel
theorem d_Mod_init_732 : decode prog_14_method_2_code 732 = .ok (.invokestatic 159, 3) := by decide +kernel
theorem d_Mod_init_735 : decode prog_14_method_2_code 735 = .ok (.lastore, 1) := by decide +kernel
theorem d_Mod_init_736 : decode prog_14_method_2_code 736 = .ok (.aload_n 0, 1) := by decide +kernel
theorem d_Mod_init_737 : decode prog_14_method_2_code 737 = .ok (.getfield 34, 3) := by decide +kernel
theorem d_Mod_init_740 : decode prog_14_method_2_code 740 = .ok (.bipush 17, 2) := by decide +kernel
theorem d_Mod_init_742 : decode prog_14_method_2_code 742 = .ok (.bipush 112, 2) := by decide +kernel
theorem d_Mod_init_744 : decode prog_14_method_2_code 744 = .ok (.bipush 97, 2) := by decide +kernel
theorem d_Mod_init_746 : decode prog_14_method_2_code 746 = .ok (.bipush 108, 2) := by decide +kernel
theorem d_Mod_init_748 : decode prog_14_method_2_code 748 = .ok (.bipush 97, 2) := by decide +kernel
theorem d_Mod_init_750 : decode prog_14_method_2_code 750 = .ok (.bipush 116, 2) := by decide +kernel
theorem d_Mod_init_752 : decode prog_14_method_2_code 752 = .ok (.bipush 101, 2) := by decide +kernel
theorem d_Mod_init_754 : decode prog_14_method_2_code 754 = .ok (.iconst 0, 1) := by decide +kernel
theorem d_Mod_init_755 : decode prog_14_method_2_code 755 = .ok (.invokestatic 159, 3) := by decide +kernel
theorem d_Mod_init_758 : decode prog_14_method_2_code 758 = .ok (.lastore, 1) := by decide +kernel
theorem d_Mod_init_759 : decode prog_14_method_2_code 759 = .ok (.aload_n 0, 1) := by decide +kernel
theorem d_Mod_init_760 : decode prog_14_method_2_code 760 = .ok (.getfield 34, 3) := by decide +kernel
theorem d_Mod_init_763 : decode prog_14_method_2_code 763 = .ok (.bipush 18, 2) := by decide +kernel
theorem d_Mod_init_765 : decode prog_14_method_2_code 765 = .ok (.bipush 97, 2) := by decide +kernel
theorem d_Mod_init_767 : decode prog_14_method_2_code 767 = .ok (.bipush 103, 2) := by decide +kernel
theorem d_Mod_init_769 : decode prog_14_method_2_code 769 = .ok (.bipush 111, 2) := by decide +kernel
theorem d_Mod_init_771 : decode prog_14_method_2_code 771 = .ok (.iconst 0, 1) := by decide +kernel
theorem d_Mod_init_772 : decode prog_14_method_2_code 772 = .ok (.iconst 0, 1) := by decide +kernel
theorem d_Mod_init_773 : decode prog_14_method_2_code 773 = .ok (.iconst 0, 1) := by decide +kernel
theorem d_Mod_init_774 : decode prog_14_method_2_code 774 = .ok (.iconst 0, 1) := by decide +kernel
theorem d_Mod_init_775 : decode prog_14_method_2_code 775 = .ok (.invokestatic 159, 3) := by decide +kernel
theorem d_Mod_init_778 : decode prog_14_method_2_code 778 = .ok (.lastore, 1) := by decide +kernel
theorem d_Mod_init_779 : decode prog_14_method_2_code 779 = .ok (.aload_n 0, 1) := by decide +kernel
theorem d_Mod_init_780 : decode prog_14_method_2_code 780 = .ok (.getfield 34, 3) := by decide +kernel
theorem d_Mod_init_783 : decode prog_14_method_2_code 783 = .ok (.bipush 19, 2) := by decide +kernel
theorem d_Mod_init_785 : decode prog_14_method_2_code 785 = .ok (.bipush 115, 2) := by decide +kernel
theorem d_Mod_init_787 : decode prog_14_method_2_code 787 = .ok (.bipush 116, 2) := by decide +kernel
theorem d_Mod_init_789 : decode prog_14_method_2_code 789 = .ok (.bipush 111, 2) := by decide +kernel
theorem d_Mod_init_791 : decode prog_14_method_2_code 791 = .ok (.bipush 99, 2) := by decide +kernel
theorem d_Mod_init_793 : decode prog_14_method_2_code 793 = .ok (.bipush 107, 2) := by decide +kernel
theorem d_Mod_init_795 : decode prog_14_method_2_code 795 = .ok (.iconst 0, 1) := by decide +kernel
theorem d_Mod_init_796 : decode prog_14_method_2_code 796 = .ok (.iconst 0, 1) := by decide +kernel
theorem d_Mod_init_797 : decode prog_14_method_2_code 797 = .ok (.invokestatic 159, 3) := by decide +kernel
theorem d_Mod_init_800 : decode prog_14_method_2_code 800 = .ok (.lastore, 1) := by decide +kernel
theorem d_Mod_init_801 : decode prog_14_method_2_code 801 = .ok (.aload_n 0, 1) := by decide +kernel
theorem d_Mod_init_802 : decode prog_14_method_2_code 802 = .ok (.getfield 34, 3) := by decide +kernel
theorem d_Mod_init_805 : decode prog_14_method_2_code 805 = .ok (.bipush 20, 2) := by decide +kernel
theorem d_Mod_init_807 : decode prog_14_method_2_code 807 = .ok (.bipush 112, 2) := by decide +kernel
theorem d_Mod_init_809 : decode prog_14_method_2_code 809 = .ok (.bipush 114, 2) := by decide +kernel
theorem d_Mod_init_811 : decode prog_14_method_2_code 811 = .ok (.bipush 105, 2) := by decide +kernel
theorem d_Mod_init_813 : decode prog_14_method_2_code 813 = .ok (.bipush 99, 2) := by decide +kernel
theorem d_Mod_init_815 : decode prog_14_method_2_code 815 = .ok (.bipush 101, 2) := by decide +kernel
theorem d_Mod_init_817 : decode prog_14_method_2_code 817 = .ok (.iconst 0, 1) := by decide +kernel
theorem d_Mod_init_818 : decode prog_14_method_2_code 818 = .ok (.iconst 0, 1) := by decide +kernel
theorem d_Mod_init_819 : decode prog_14_method_2_code 819 = .ok (.invokestatic 159, 3) := by decide +kernel
theorem d_Mod_init_822 : decode prog_14_method_2_code 822 = .ok (.lastore, 1) := by decide +kernel
theorem d_Mod_init_823 : decode prog_14_method_2_code 823 = .ok (.aload_n 0, 1) := by decide +kernel
theorem d_Mod_init_824 : decode prog_14_method_2_code 824 = .ok (.invokevirtual 163, 3) := by decide +kernel
theorem d_Mod_init_827 : decode prog_14_method_2_code 827 = .ok (.aload_n 0, 1) := by decide +kernel
theorem d_Mod_init_828 : decode prog_14_method_2_code 828 = .ok (.invokevirtual 166, 3) := by decide +kernel
theorem d_Mod_init_831 : decode prog_14_method_2_code 831 = .ok (.return_, 1) := by decide +kernel
theorem d_Mod_feed_0 : decode prog_14_method_3_code 0 = .ok (.aload_n 0, 1) := by decide +kernel
theorem d_Mod_feed_1 : decode prog_14_method_3_code 1 = .ok (.getfield 169, 3) := by decide +kernel
theorem d_Mod_feed_4 : decode prog_14_method_3_code 4 = .ok (.bipush 20, 2) := by decide +kernel
theorem d_Mod_feed_6 : decode prog_14_method_3_code 6 = .ok (.iadd, 1) := by decide +kernel
theorem d_Mod_feed_7 : decode prog_14_method_3_code 7 = .ok (.sipush 2000, 3) := by decide +kernel
theorem d_Mod_feed_10 : decode prog_14_method_3_code 10 = .ok (.if_icmp .le 5, 3) := by decide +kernel
theorem d_Mod_feed_13 : decode prog_14_method_3_code 13 = .ok (.iconst (-1), 1) := by decide +kernel
theorem d_Mod_feed_14 : decode prog_14_method_3_code 14 = .ok (.ireturn, 1) := by decide +kernel
theorem d_Mod_feed_15 : decode prog_14_method_3_code 15 = .ok (.aload_n 0, 1) := by decide +kernel
theorem d_Mod_feed_16 : decode prog_14_method_3_code 16 = .ok (.iload_n 1, 1) := by decide +kernel
theorem d_Mod_feed_17 : decode prog_14_method_3_code 17 = .ok (.invokevirtual 172, 3) := by decide +kernel
theorem d_Mod_feed_20 : decode prog_14_method_3_code 20 = .ok (.aload_n 0, 1) := by decide +kernel
theorem d_Mod_feed_21 : decode prog_14_method_3_code 21 = .ok (.iload_n 2, 1) := by decide +kernel
theorem d_Mod_feed_22 : decode prog_14_method_3_code 22 = .ok (.invokevirtual 172, 3) := by decide +kernel
theorem d_Mod_feed_25 : decode prog_14_method_3_code 25 = .ok (.aload_n 0, 1) := by decide +kernel
theorem d_Mod_feed_26 : decode prog_14_method_3_code 26 = .ok (.iload_n 3, 1) := by decide +kernel
theorem d_Mod_feed_27 : decode prog_14_method_3_code 27 = .ok (.invokevirtual 172, 3) := by decide +kernel
theorem d_Mod_feed_30 : decode prog_14_method_3_code 30 = .ok (.aload_n 0, 1) := by decide +kernel
theorem d_Mod_feed_31 : decode prog_14_method_3_code 31 = .ok (.iload 4, 2) := by decide +kernel
theorem d_Mod_feed_33 : decode prog_14_method_3_code 33 = .ok (.invokevirtual 172, 3) := by decide +kernel
theorem d_Mod_feed_36 : decode prog_14_method_3_code 36 = .ok (.aload_n 0, 1) := by decide +kernel
theorem d_Mod_feed_37 : decode prog_14_method_3_code 37 = .ok (.iload 5, 2) := by decide +kernel
theorem d_Mod_feed_39 : decode prog_14_method_3_code 39 = .ok (.invokevirtual 172, 3) := by decide +kernel
theorem d_Mod_feed_42 : decode prog_14_method_3_code 42 = .ok (.aload_n 0, 1) := by decide +kernel
theorem d_Mod_feed_43 : decode prog_14_method_3_code 43 = .ok (.getfield 169, 3) := by decide +kernel
theorem d_Mod_feed_46 : decode prog_14_method_3_code 46 = .ok (.ireturn, 1) := by decide +kernel
theorem d_Mod_put_0 : decode prog_14_method_4_code 0 = .ok (.bipush 24, 2) := by decide +kernel
theorem d_Mod_put_2 : decode prog_14_method_4_code 2 = .ok (.istore_n 2, 1) := by decide +kernel
theorem d_Mod_put_3 : decode prog_14_method_4_code 3 = .ok (.iload_n 2, 1) := by decide +kernel
theorem d_Mod_put_4 : decode prog_14_method_4_code 4 = .ok (.ifCond .lt 32, 3) := by decide +kernel
theorem d_Mod_put_7 : decode prog_14_method_4_code 7 = .ok (.aload_n 0, 1) := by decide +kernel
theorem d_Mod_put_8 : decode prog_14_method_4_code 8 = .ok (.getfield 13, 3) := by decide +kernel
theorem d_Mod_put_11 : decode prog_14_method_4_code 11 = .ok (.aload_n 0, 1) := by decide +kernel
theorem d_Mod_put_12 : decode prog_14_method_4_code 12 = .ok (.getfield 169, 3) := by decide +kernel
theorem d_Mod_put_15 : decode prog_14_method_4_code 15 = .ok (.iload_n 1, 1) := by decide +kernel
theorem d_Mod_put_16 : decode prog_14_method_4_code 16 = .ok (.iload_n 2, 1) := by decide +kernel
theorem d_Mod_put_17 : decode prog_14_method_4_code 17 = .ok (.ishr, 1) := by decide +kernel
theorem d_Mod_put_18 : decode prog_14_method_4_code 18 = .ok (.i2b, 1) := by decide +kernel
theorem d_Mod_put_19 : decode prog_14_method_4_code 19 = .ok (.bastore, 1) := by decide +kernel
theorem d_Mod_put_20 : decode prog_14_method_4_code 20 = .ok (.aload_n 0, 1) := by decide +kernel
theorem d_Mod_put_21 : decode prog_14_method_4_code 21 = .ok (.dup, 1) := by decide +kernel
theorem d_Mod_put_22 : decode prog_14_method_4_code 22 = .ok (.getfield 169, 3) := by decide +kernel
theorem d_Mod_put_25 : decode prog_14_method_4_code 25 = .ok (.iconst 1, 1) := by decide +kernel
theorem d_Mod_put_26 : decode prog_14_method_4_code 26 = .ok (.iadd, 1) := by decide +kernel
theorem d_Mod_put_27 : decode prog_14_method_4_code 27 = .ok (.putfield 169, 3) := by decide +kernel
theorem d_Mod_put_30 : decode prog_14_method_4_code 30 = .ok (.iinc 2 (-8), 3) := by decide +kernel
theorem d_Mod_put_33 : decode prog_14_method_4_code 33 = .ok (.goto (-30), 3) := by decide +kernel
theorem d_Mod_put_36 : decode prog_14_method_4_code 36 = .ok (.return_, 1) := by decide +kernel
theorem d_Mod_back_0 : decode prog_14_method_5_code 0 = .ok (.iload_n 1, 1) := by decide +kernel
theorem d_Mod_back_1 : decode prog_14_method_5_code 1 = .ok (.ifCond .lt 11, 3) := by decide +kernel
theorem d_Mod_back_4 : decode prog_14_method_5_code 4 = .ok (.iload_n 1, 1) := by decide +kernel
theorem d_Mod_back_5 : decode prog_14_method_5_code 5 = .ok (.aload_n 0, 1) := by decide +kernel
theorem d_Mod_back_6 : decode prog_14_method_5_code 6 = .ok (.getfield 169, 3) := by decide +kernel
theorem d_Mod_back_9 : decode prog_14_method_5_code 9 = .ok (.if_icmp .le 5, 3) := by decide +kernel
theorem d_Mod_back_12 : decode prog_14_method_5_code 12 = .ok (.iconst (-1), 1) := by decide +kernel
theorem d_Mod_back_13 : decode prog_14_method_5_code 13 = .ok (.ireturn, 1) := by decide +kernel
theorem d_Mod_back_14 : decode prog_14_method_5_code 14 = .ok (.aload_n 0, 1) := by decide +kernel
theorem d_Mod_back_15 : decode prog_14_method_5_code 15 = .ok (.dup, 1) := by decide +kernel
theorem d_Mod_back_16 : decode prog_14_method_5_code 16 = .ok (.getfield 169, 3) := by decide +kernel
theorem d_Mod_back_19 : decode prog_14_method_5_code 19 = .ok (.iload_n 1, 1) := by decide +kernel
theorem d_Mod_back_20 : decode prog_14_method_5_code 20 = .ok (.isub, 1) := by decide +kernel
theorem d_Mod_back_21 : decode prog_14_method_5_code 21 = .ok (.putfield 169, 3) := by decide +kernel
theorem d_Mod_back_24 : decode prog_14_method_5_code 24 = .ok (.aload_n 0, 1) := by decide +kernel
theorem d_Mod_back_25 : decode prog_14_method_5_code 25 = .ok (.getfield 169, 3) := by decide +kernel
theorem d_Mod_back_28 : decode prog_14_method_5_code 28 = .ok (.ireturn, 1) := by decide +kernel
theorem d_Mod_byteAt_0 : decode prog_14_method_6_code 0 = .ok (.iload_n 1, 1) := by decide +kernel
theorem d_Mod_byteAt_1 : decode prog_14_method_6_code 1 = .ok (.aload_n 0, 1) := by decide +kernel
theorem d_Mod_byteAt_2 : decode prog_14_method_6_code 2 = .ok (.getfield 175, 3) := by decide +kernel
theorem d_Mod_byteAt_5 : decode prog_14_method_6_code 5 = .ok (.if_icmp .ge 16, 3) := by decide +kernel
theorem d_Mod_byteAt_8 : decode prog_14_method_6_code 8 = .ok (.aload_n 0, 1) := by decide +kernel
theorem d_Mod_byteAt_9 : decode prog_14_method_6_code 9 = .ok (.getfield 17, 3) := by decide +kernel
theorem d_Mod_byteAt_12 : decode prog_14_method_6_code 12 = .ok (.iload_n 1, 1) := by decide +kernel
theorem d_Mod_byteAt_13 : decode prog_14_method_6_code 13 = .ok (.baload, 1) := by decide +kernel
theorem d_Mod_byteAt_14 : decode prog_14_method_6_code 14 = .ok (.sipush 255, 3) := by decide +kernel
theorem d_Mod_byteAt_17 : decode prog_14_method_6_code 17 = .ok (.iand, 1) := by decide +kernel
theorem d_Mod_byteAt_18 : decode prog_14_method_6_code 18 = .ok (.goto 4, 3) := by decide +kernel
theorem d_Mod_byteAt_21 : decode prog_14_method_6_code 21 = .ok (.iconst 0, 1) := by decide +kernel
theorem d_Mod_byteAt_22 : decode prog_14_method_6_code 22 = .ok (.ireturn, 1) := by decide +kernel
theorem d_Mod_isDigit_0 : decode prog_14_method_7_code 0 = .ok (.iload_n 0, 1) := by decide +kernel
theorem d_Mod_isDigit_1 : decode prog_14_method_7_code 1 = .ok (.bipush 48, 2) := by decide +kernel
theorem d_Mod_isDigit_3 : decode prog_14_method_7_code 3 = .ok (.if_icmp .lt 13, 3) := by decide +kernel
theorem d_Mod_isDigit_6 : decode prog_14_method_7_code 6 = .ok (.iload_n 0, 1) := by decide +kernel
theorem d_Mod_isDigit_7 : decode prog_14_method_7_code 7 = .ok (.bipush 57, 2) := by decide +kernel
theorem d_Mod_isDigit_9 : decode prog_14_method_7_code 9 = .ok (.if_icmp .gt 7, 3) := by decide +kernel
theorem d_Mod_isDigit_12 : decode prog_14_method_7_code 12 = .ok (.iconst 1, 1) := by decide +kernel
theorem d_Mod_isDigit_13 : decode prog_14_method_7_code 13 = .ok (.goto 4, 3) := by decide +kernel
theorem d_Mod_isDigit_16 : decode prog_14_method_7_code 16 = .ok (.iconst 0, 1) := by decide +kernel
theorem d_Mod_isDigit_17 : decode prog_14_method_7_code 17 = .ok (.ireturn, 1) := by decide +kernel
theorem d_Mod_isLetter_0 : decode prog_14_method_8_code 0 = .ok (.iload_n 0, 1) := by decide +kernel
theorem d_Mod_isLetter_1 : decode prog_14_method_8_code 1 = .ok (.bipush 97, 2) := by decide +kernel
theorem d_Mod_isLetter_3 : decode prog_14_method_8_code 3 = .ok (.if_icmp .lt 13, 3) := by decide +kernel
theorem d_Mod_isLetter_6 : decode prog_14_method_8_code 6 = .ok (.iload_n 0, 1) := by decide +kernel
theorem d_Mod_isLetter_7 : decode prog_14_method_8_code 7 = .ok (.bipush 122, 2) := by decide +kernel
theorem d_Mod_isLetter_9 : decode prog_14_method_8_code 9 = .ok (.if_icmp .gt 7, 3) := by decide +kernel
theorem d_Mod_isLetter_12 : decode prog_14_method_8_code 12 = .ok (.iconst 1, 1) := by decide +kernel
theorem d_Mod_isLetter_13 : decode prog_14_method_8_code 13 = .ok (.goto 4, 3) := by decide +kernel
theorem d_Mod_isLetter_16 : decode prog_14_method_8_code 16 = .ok (.iconst 0, 1) := by decide +kernel
theorem d_Mod_isLetter_17 : decode prog_14_method_8_code 17 = .ok (.ireturn, 1) := by decide +kernel
theorem d_Mod_appends_0 : decode prog_14_method_9_code 0 = .ok (.iload_n 2, 1) := by decide +kernel
theorem d_Mod_appends_1 : decode prog_14_method_9_code 1 = .ok (.ifCond .ne 7, 3) := by decide +kernel
theorem d_Mod_appends_4 : decode prog_14_method_9_code 4 = .ok (.lload_n 0, 1) := by decide +kernel
theorem d_Mod_appends_5 : decode prog_14_method_9_code 5 = .ok (.goto 16, 3) := by decide +kernel
theorem d_Mod_appends_8 : decode prog_14_method_9_code 8 = .ok (.ldc2_w 178, 3) := by decide +kernel
theorem d_Mod_appends_11 : decode prog_14_method_9_code 11 = .ok (.lload_n 0, 1) := by decide +kernel
theorem d_Mod_appends_12 : decode prog_14_method_9_code 12 = .ok (.lmul, 1) := by decide +kernel
theorem d_Mod_appends_13 : decode prog_14_method_9_code 13 = .ok (.iload_n 2, 1) := by decide +kernel
theorem d_Mod_appends_14 : decode prog_14_method_9_code 14 = .ok (.bipush 97, 2) := by decide +kernel
theorem d_Mod_appends_16 : decode prog_14_method_9_code 16 = .ok (.isub, 1) := by decide +kernel
theorem d_Mod_appends_17 : decode prog_14_method_9_code 17 = .ok (.iconst 1, 1) := by decide +kernel
theorem d_Mod_appends_18 : decode prog_14_method_9_code 18 = .ok (.iadd, 1) := by decide +kernel
theorem d_Mod_appends_19 : decode prog_14_method_9_code 19 = .ok (.i2l, 1) := by decide +kernel
theorem d_Mod_appends_20 : decode prog_14_method_9_code 20 = .ok (.ladd, 1) := by decide +kernel
theorem d_Mod_appends_21 : decode prog_14_method_9_code 21 = .ok (.lreturn, 1) := by decide +kernel
theorem d_Mod_word_0 : decode prog_14_method_10_code 0 = .ok (.lconst 0, 1) := by decide +kernel
theorem d_Mod_word_1 : decode prog_14_method_10_code 1 = .ok (.iload_n 0, 1) := by decide +kernel
theorem d_Mod_word_2 : decode prog_14_method_10_code 2 = .ok (.invokestatic 180, 3) := by decide +kernel
theorem d_Mod_word_5 : decode prog_14_method_10_code 5 = .ok (.iload_n 1, 1) := by decide +kernel
theorem d_Mod_word_6 : decode prog_14_method_10_code 6 = .ok (.invokestatic 180, 3) := by decide +kernel
theorem d_Mod_word_9 : decode prog_14_method_10_code 9 = .ok (.iload_n 2, 1) := by decide +kernel
theorem d_Mod_word_10 : decode prog_14_method_10_code 10 = .ok (.invokestatic 180, 3) := by decide +kernel
theorem d_Mod_word_13 : decode prog_14_method_10_code 13 = .ok (.iload_n 3, 1) := by decide +kernel
theorem d_Mod_word_14 : decode prog_14_method_10_code 14 = .ok (.invokestatic 180, 3) := by decide +kernel
theorem d_Mod_word_17 : decode prog_14_method_10_code 17 = .ok (.iload 4, 2) := by decide +kernel
theorem d_Mod_word_19 : decode prog_14_method_10_code 19 = .ok (.invokestatic 180, 3) := by decide +kernel
theorem d_Mod_word_22 : decode prog_14_method_10_code 22 = .ok (.iload 5, 2) := by decide +kernel
theorem d_Mod_word_24 : decode prog_14_method_10_code 24 = .ok (.invokestatic 180, 3) := by decide +kernel
theorem d_Mod_word_27 : decode prog_14_method_10_code 27 = .ok (.iload 6, 2) := by decide +kernel
theorem d_Mod_word_29 : decode prog_14_method_10_code 29 = .ok (.invokestatic 180, 3) := by decide +kernel
theorem d_Mod_word_32 : decode prog_14_method_10_code 32 = .ok (.lreturn, 1) := by decide +kernel
theorem d_Mod_token_0 : decode prog_14_method_11_code 0 = .ok (.aload_n 0, 1) := by decide +kernel
theorem d_Mod_token_1 : decode prog_14_method_11_code 1 = .ok (.getfield 20, 3) := by decide +kernel
theorem d_Mod_token_4 : decode prog_14_method_11_code 4 = .ok (.aload_n 0, 1) := by decide +kernel
theorem d_Mod_token_5 : decode prog_14_method_11_code 5 = .ok (.getfield 184, 3) := by decide +kernel
theorem d_Mod_token_8 : decode prog_14_method_11_code 8 = .ok (.iload_n 1, 1) := by decide +kernel
theorem d_Mod_token_9 : decode prog_14_method_11_code 9 = .ok (.iastore, 1) := by decide +kernel
theorem d_Mod_token_10 : decode prog_14_method_11_code 10 = .ok (.aload_n 0, 1) := by decide +kernel
theorem d_Mod_token_11 : decode prog_14_method_11_code 11 = .ok (.getfield 24, 3) := by decide +kernel
theorem d_Mod_token_14 : decode prog_14_method_11_code 14 = .ok (.aload_n 0, 1) := by decide +kernel
theorem d_Mod_token_15 : decode prog_14_method_11_code 15 = .ok (.getfield 184, 3) := by decide +kernel
theorem d_Mod_token_18 : decode prog_14_method_11_code 18 = .ok (.iload_n 2, 1) := by decide +kernel
theorem d_Mod_token_19 : decode prog_14_method_11_code 19 = .ok (.iastore, 1) := by decide +kernel
theorem d_Mod_token_20 : decode prog_14_method_11_code 20 = .ok (.aload_n 0, 1) := by decide +kernel
theorem d_Mod_token_21 : decode prog_14_method_11_code 21 = .ok (.getfield 27, 3) := by decide +kernel
theorem d_Mod_token_24 : decode prog_14_method_11_code 24 = .ok (.aload_n 0, 1) := by decide +kernel
theorem d_Mod_token_25 : decode prog_14_method_11_code 25 = .ok (.getfield 184, 3) := by decide +kernel
theorem d_Mod_token_28 : decode prog_14_method_11_code 28 = .ok (.iload_n 3, 1) := by decide +kernel
theorem d_Mod_token_29 : decode prog_14_method_11_code 29 = .ok (.iastore, 1) := by decide +kernel
theorem d_Mod_token_30 : decode prog_14_method_11_code 30 = .ok (.aload_n 0, 1) := by decide +kernel
theorem d_Mod_token_31 : decode prog_14_method_11_code 31 = .ok (.getfield 30, 3) := by decide +kernel
theorem d_Mod_token_34 : decode prog_14_method_11_code 34 = .ok (.aload_n 0, 1) := by decide +kernel
theorem d_Mod_token_35 : decode prog_14_method_11_code 35 = .ok (.getfield 184, 3) := by decide +kernel
theorem d_Mod_token_38 : decode prog_14_method_11_code 38 = .ok (.lload 4, 2) := by decide +kernel
theorem d_Mod_token_40 : decode prog_14_method_11_code 40 = .ok (.lastore, 1) := by decide +kernel
theorem d_Mod_token_41 : decode prog_14_method_11_code 41 = .ok (.aload_n 0, 1) := by decide +kernel
theorem d_Mod_token_42 : decode prog_14_method_11_code 42 = .ok (.dup, 1) := by decide +kernel
theorem d_Mod_token_43 : decode prog_14_method_11_code 43 = .ok (.getfield 184, 3) := by decide +kernel
theorem d_Mod_token_46 : decode prog_14_method_11_code 46 = .ok (.iconst 1, 1) := by decide +kernel
theorem d_Mod_token_47 : decode prog_14_method_11_code 47 = .ok (.iadd, 1) := by decide +kernel
theorem d_Mod_token_48 : decode prog_14_method_11_code 48 = .ok (.putfield 184, 3) := by decide +kernel
theorem d_Mod_token_51 : decode prog_14_method_11_code 51 = .ok (.return_, 1) := by decide +kernel
theorem d_Mod_cut_0 : decode prog_14_method_12_code 0 = .ok (.aload_n 0, 1) := by decide +kernel
theorem d_Mod_cut_1 : decode prog_14_method_12_code 1 = .ok (.iconst 0, 1) := by decide +kernel
theorem d_Mod_cut_2 : decode prog_14_method_12_code 2 = .ok (.putfield 184, 3) := by decide +kernel
theorem d_Mod_cut_5 : decode prog_14_method_12_code 5 = .ok (.iconst 0, 1) := by decide +kernel
theorem d_Mod_cut_6 : decode prog_14_method_12_code 6 = .ok (.istore_n 1, 1) := by decide +kernel
theorem d_Mod_cut_7 : decode prog_14_method_12_code 7 = .ok (.aload_n 0, 1) := by decide +kernel
theorem d_Mod_cut_8 : decode prog_14_method_12_code 8 = .ok (.getfield 184, 3) := by decide +kernel
theorem d_Mod_cut_11 : decode prog_14_method_12_code 11 = .ok (.sipush 400, 3) := by decide +kernel
theorem d_Mod_cut_14 : decode prog_14_method_12_code 14 = .ok (.if_icmp .gt 280, 3) := by decide +kernel
theorem d_Mod_cut_17 : decode prog_14_method_12_code 17 = .ok (.aload_n 0, 1) := by decide +kernel
theorem d_Mod_cut_18 : decode prog_14_method_12_code 18 = .ok (.iload_n 1, 1) := by decide +kernel
theorem d_Mod_cut_19 : decode prog_14_method_12_code 19 = .ok (.invokevirtual 187, 3) := by decide +kernel
theorem d_Mod_cut_22 : decode prog_14_method_12_code 22 = .ok (.istore_n 2, 1) := by decide +kernel
theorem d_Mod_cut_23 : decode prog_14_method_12_code 23 = .ok (.iload_n 1, 1) := by decide +kernel
theorem d_Mod_cut_24 : decode prog_14_method_12_code 24 = .ok (.aload_n 0, 1) := by decide +kernel
theorem d_Mod_cut_25 : decode prog_14_method_12_code 25 = .ok (.getfield 175, 3) := by decide +kernel
theorem d_Mod_cut_28 : decode prog_14_method_12_code 28 = .ok (.if_icmp .lt 15, 3) := by decide +kernel
theorem d_Mod_cut_31 : decode prog_14_method_12_code 31 = .ok (.aload_n 0, 1) := by decide +kernel
theorem d_Mod_cut_32 : decode prog_14_method_12_code 32 = .ok (.iconst 0, 1) := by decide +kernel
theorem d_Mod_cut_33 : decode prog_14_method_12_code 33 = .ok (.aload_n 0, 1) := by decide +kernel
theorem d_Mod_cut_34 : decode prog_14_method_12_code 34 = .ok (.getfield 175, 3) := by decide +kernel
theorem d_Mod_cut_37 : decode prog_14_method_12_code 37 = .ok (.iconst 0, 1) := by decide +kernel
theorem d_Mod_cut_38 : decode prog_14_method_12_code 38 = .ok (.lconst 0, 1) := by decide +kernel
theorem d_Mod_cut_39 : decode prog_14_method_12_code 39 = .ok (.invokevirtual 191, 3) := by decide +kernel
theorem d_Mod_cut_42 : decode prog_14_method_12_code 42 = .ok (.return_, 1) := by decide +kernel
theorem d_Mod_cut_43 : decode prog_14_method_12_code 43 = .ok (.iload_n 2, 1) := by decide +kernel
theorem d_Mod_cut_44 : decode prog_14_method_12_code 44 = .ok (.bipush 9, 2) := by decide +kernel
theorem d_Mod_cut_46 : decode prog_14_method_12_code 46 = .ok (.if_icmp .eq 21, 3) := by decide +kernel
theorem d_Mod_cut_49 : decode prog_14_method_12_code 49 = .ok (.iload_n 2, 1) := by decide +kernel
theorem d_Mod_cut_50 : decode prog_14_method_12_code 50 = .ok (.bipush 10, 2) := by decide +kernel
theorem d_Mod_cut_52 : decode prog_14_method_12_code 52 = .ok (.if_icmp .eq 15, 3) := by decide +kernel
theorem d_Mod_cut_55 : decode prog_14_method_12_code 55 = .ok (.iload_n 2, 1) := by decide +kernel
theorem d_Mod_cut_56 : decode prog_14_method_12_code 56 = .ok (.bipush 13, 2) := by decide +kernel
theorem d_Mod_cut_58 : decode prog_14_method_12_code 58 = .ok (.if_icmp .eq 9, 3) := by decide +kernel
theorem d_Mod_cut_61 : decode prog_14_method_12_code 61 = .ok (.iload_n 2, 1) := by decide +kernel
theorem d_Mod_cut_62 : decode prog_14_method_12_code 62 = .ok (.bipush 32, 2) := by decide +kernel
theorem d_Mod_cut_64 : decode prog_14_method_12_code 64 = .ok (.if_icmp .ne 9, 3) := by decide +kernel
theorem d_Mod_cut_67 : decode prog_14_method_12_code 67 = .ok (.iinc 1 1, 3) := by decide +kernel
theorem d_Mod_cut_70 : decode prog_14_method_12_code 70 = .ok (.goto 221, 3) := by decide +kernel
theorem d_Mod_cut_73 : decode prog_14_method_12_code 73 = .ok (.iload_n 2, 1) := by decide +kernel
theorem d_Mod_cut_74 : decode prog_14_method_12_code 74 = .ok (.invokestatic 195, 3) := by decide +kernel
theorem d_Mod_cut_77 : decode prog_14_method_12_code 77 = .ok (.ifCond .eq 119, 3) := by decide +kernel
theorem d_Mod_cut_80 : decode prog_14_method_12_code 80 = .ok (.iconst 0, 1) := by decide +kernel
theorem d_Mod_cut_81 : decode prog_14_method_12_code 81 = .ok (.istore_n 3, 1) := by decide +kernel
theorem d_Mod_cut_82 : decode prog_14_method_12_code 82 = .ok (.lconst 0, 1) := by decide +kernel
theorem d_Mod_cut_83 : decode prog_14_method_12_code 83 = .ok (.lstore 4, 2) := by decide +kernel
theorem d_Mod_cut_85 : decode prog_14_method_12_code 85 = .ok (.aload_n 0, 1) := by decide +kernel
theorem d_Mod_cut_86 : decode prog_14_method_12_code 86 = .ok (.iload_n 1, 1) := by decide +kernel
theorem d_Mod_cut_87 : decode prog_14_method_12_code 87 = .ok (.iload_n 3, 1) := by decide +kernel
theorem d_Mod_cut_88 : decode prog_14_method_12_code 88 = .ok (.iadd, 1) := by decide +kernel
theorem d_Mod_cut_89 : decode prog_14_method_12_code 89 = .ok (.invokevirtual 187, 3) := by decide +kernel
theorem d_Mod_cut_92 : decode prog_14_method_12_code 92 = .ok (.invokestatic 195, 3) := by decide +kernel
theorem d_Mod_cut_95 : decode prog_14_method_12_code 95 = .ok (.ifCond .eq 29, 3) := by decide +kernel
theorem d_Mod_cut_98 : decode prog_14_method_12_code 98 = .ok (.iload_n 3, 1) := by decide +kernel
theorem d_Mod_cut_99 : decode prog_14_method_12_code 99 = .ok (.bipush 8, 2) := by decide +kernel
theorem d_Mod_cut_101 : decode prog_14_method_12_code 101 = .ok (.if_icmp .ge 17, 3) := by decide +kernel
theorem d_Mod_cut_104 : decode prog_14_method_12_code 104 = .ok (.lload 4, 2) := by decide +kernel
theorem d_Mod_cut_106 : decode prog_14_method_12_code 106 = .ok (.aload_n 0, 1) := by decide +kernel
theorem d_Mod_cut_107 : decode prog_14_method_12_code 107 = .ok (.iload_n 1, 1) := by decide +kernel
theorem d_Mod_cut_108 : decode prog_14_method_12_code 108 = .ok (.iload_n 3, 1) := by decide +kernel
theorem d_Mod_cut_109 : decode prog_14_method_12_code 109 = .ok (.iadd, 1) := by decide +kernel
theorem d_Mod_cut_110 : decode prog_14_method_12_code 110 = .ok (.invokevirtual 187, 3) := by decide +kernel
theorem d_Mod_cut_113 : decode prog_14_method_12_code 113 = .ok (.invokestatic 180, 3) := by decide +kernel
theorem d_Mod_cut_116 : decode prog_14_method_12_code 116 = .ok (.lstore 4, 2) := by decide +kernel
theorem d_Mod_cut_118 : decode prog_14_method_12_code 118 = .ok (.iinc 3 1, 3) := by decide +kernel
theorem d_Mod_cut_121 : decode prog_14_method_12_code 121 = .ok (.goto (-36), 3) := by decide +kernel
theorem d_Mod_cut_124 : decode prog_14_method_12_code 124 = .ok (.iload_n 3, 1) := by decide +kernel
theorem d_Mod_cut_125 : decode prog_14_method_12_code 125 = .ok (.bipush 8, 2) := by decide +kernel
theorem d_Mod_cut_127 : decode prog_14_method_12_code 127 = .ok (.if_icmp .le 7, 3) := by decide +kernel
theorem d_Mod_cut_130 : decode prog_14_method_12_code 130 = .ok (.iconst 3, 1) := by decide +kernel
theorem d_Mod_cut_131 : decode prog_14_method_12_code 131 = .ok (.goto 4, 3) := by decide +kernel
theorem d_Mod_cut_134 : decode prog_14_method_12_code 134 = .ok (.iconst 1, 1) := by decide +kernel
theorem d_Mod_cut_135 : decode prog_14_method_12_code 135 = .ok (.istore 6, 2) := by decide +kernel
theorem d_Mod_cut_137 : decode prog_14_method_12_code 137 = .ok (.iload_n 3, 1) := by decide +kernel
theorem d_Mod_cut_138 : decode prog_14_method_12_code 138 = .ok (.bipush 8, 2) := by decide +kernel
theorem d_Mod_cut_140 : decode prog_14_method_12_code 140 = .ok (.if_icmp .gt 39, 3) := by decide +kernel
theorem d_Mod_cut_143 : decode prog_14_method_12_code 143 = .ok (.iconst 0, 1) := by decide +kernel
theorem d_Mod_cut_144 : decode prog_14_method_12_code 144 = .ok (.istore 7, 2) := by decide +kernel
theorem d_Mod_cut_146 : decode prog_14_method_12_code 146 = .ok (.iload 7, 2) := by decide +kernel
theorem d_Mod_cut_148 : decode prog_14_method_12_code 148 = .ok (.bipush 21, 2) := by decide +kernel
theorem d_Mod_cut_150 : decode prog_14_method_12_code 150 = .ok (.if_icmp .ge 29, 3) := by decide +kernel
theorem d_Mod_cut_153 : decode prog_14_method_12_code 153 = .ok (.aload_n 0, 1) := by decide +kernel
theorem d_Mod_cut_154 : decode prog_14_method_12_code 154 = .ok (.getfield 34, 3) := by decide +kernel
theorem d_Mod_cut_157 : decode prog_14_method_12_code 157 = .ok (.iload 7, 2) := by decide +kernel
theorem d_Mod_cut_159 : decode prog_14_method_12_code 159 = .ok (.laload, 1) := by decide +kernel
theorem d_Mod_cut_160 : decode prog_14_method_12_code 160 = .ok (.lload 4, 2) := by decide +kernel
theorem d_Mod_cut_162 : decode prog_14_method_12_code 162 = .ok (.lcmp, 1) := by decide +kernel
theorem d_Mod_cut_163 : decode prog_14_method_12_code 163 = .ok (.ifCond .ne 10, 3) := by decide +kernel
theorem d_Mod_cut_166 : decode prog_14_method_12_code 166 = .ok (.bipush 20, 2) := by decide +kernel
theorem d_Mod_cut_168 : decode prog_14_method_12_code 168 = .ok (.iload 7, 2) := by decide +kernel
theorem d_Mod_cut_170 : decode prog_14_method_12_code 170 = .ok (.iadd, 1) := by decide +kernel
theorem d_Mod_cut_171 : decode prog_14_method_12_code 171 = .ok (.istore 6, 2) := by decide +kernel
theorem d_Mod_cut_173 : decode prog_14_method_12_code 173 = .ok (.iinc 7 1, 3) := by decide +kernel
theorem d_Mod_cut_176 : decode prog_14_method_12_code 176 = .ok (.goto (-30), 3) := by decide +kernel
theorem d_Mod_cut_179 : decode prog_14_method_12_code 179 = .ok (.aload_n 0, 1) := by decide +kernel
theorem d_Mod_cut_180 : decode prog_14_method_12_code 180 = .ok (.iload 6, 2) := by decide +kernel
theorem d_Mod_cut_182 : decode prog_14_method_12_code 182 = .ok (.iload_n 1, 1) := by decide +kernel
theorem d_Mod_cut_183 : decode prog_14_method_12_code 183 = .ok (.iconst 0, 1) := by decide +kernel
theorem d_Mod_cut_184 : decode prog_14_method_12_code 184 = .ok (.lload 4, 2) := by decide +kernel
theorem d_Mod_cut_186 : decode prog_14_method_12_code 186 = .ok (.invokevirtual 191, 3) := by decide +kernel
theorem d_Mod_cut_189 : decode prog_14_method_12_code 189 = .ok (.iload_n 1, 1) := by decide +kernel
theorem d_Mod_cut_190 : decode prog_14_method_12_code 190 = .ok (.iload_n 3, 1) := by decide +kernel
theorem d_Mod_cut_191 : decode prog_14_method_12_code 191 = .ok (.iadd, 1) := by decide +kernel
theorem d_Mod_cut_192 : decode prog_14_method_12_code 192 = .ok (.istore_n 1, 1) := by decide +kernel
theorem d_Mod_cut_193 : decode prog_14_method_12_code 193 = .ok (.goto 98, 3) := by decide +kernel
theorem d_Mod_cut_196 : decode prog_14_method_12_code 196 = .ok (.iload_n 2, 1) := by decide +kernel
theorem d_Mod_cut_197 : decode prog_14_method_12_code 197 = .ok (.invokestatic 199, 3) := by decide +kernel
theorem d_Mod_cut_200 : decode prog_14_method_12_code 200 = .ok (.ifCond .eq 75, 3) := by decide +kernel
theorem d_Mod_cut_203 : decode prog_14_method_12_code 203 = .ok (.iconst 0, 1) := by decide +kernel
theorem d_Mod_cut_204 : decode prog_14_method_12_code 204 = .ok (.istore_n 3, 1) := by decide +kernel
theorem d_Mod_cut_205 : decode prog_14_method_12_code 205 = .ok (.iconst 0, 1) := by decide +kernel
theorem d_Mod_cut_206 : decode prog_14_method_12_code 206 = .ok (.istore 4, 2) := by decide +kernel
theorem d_Mod_cut_208 : decode prog_14_method_12_code 208 = .ok (.aload_n 0, 1) := by decide +kernel
theorem d_Mod_cut_209 : decode prog_14_method_12_code 209 = .ok (.iload_n 1, 1) := by decide +kernel
theorem d_Mod_cut_210 : decode prog_14_method_12_code 210 = .ok (.iload_n 3, 1) := by decide +kernel
theorem d_Mod_cut_211 : decode prog_14_method_12_code 211 = .ok (.iadd, 1) := by decide +kernel
theorem d_Mod_cut_212 : decode prog_14_method_12_code 212 = .ok (.invokevirtual 187, 3) := by decide +kernel
theorem d_Mod_cut_215 : decode prog_14_method_12_code 215 = .ok (.invokestatic 199, 3) := by decide +kernel
theorem d_Mod_cut_218 : decode prog_14_method_12_code 218 = .ok (.ifCond .eq 32, 3) := by decide +kernel
theorem d_Mod_cut_221 : decode prog_14_method_12_code 221 = .ok (.iload_n 3, 1) := by decide +kernel
theorem d_Mod_cut_222 : decode prog_14_method_12_code 222 = .ok (.iconst 4, 1) := by decide +kernel
theorem d_Mod_cut_223 : decode prog_14_method_12_code 223 = .ok (.if_icmp .ge 21, 3) := by decide +kernel
theorem d_Mod_cut_226 : decode prog_14_method_12_code 226 = .ok (.bipush 10, 2) := by decide +kernel
theorem d_Mod_cut_228 : decode prog_14_method_12_code 228 = .ok (.iload 4, 2) := by decide +kernel
theorem d_Mod_cut_230 : decode prog_14_method_12_code 230 = .ok (.imul, 1) := by decide +kernel
theorem d_Mod_cut_231 : decode prog_14_method_12_code 231 = .ok (.aload_n 0, 1) := by decide +kernel
theorem d_Mod_cut_232 : decode prog_14_method_12_code 232 = .ok (.iload_n 1, 1) := by decide +kernel
theorem d_Mod_cut_233 : decode prog_14_method_12_code 233 = .ok (.iload_n 3, 1) := by decide +kernel
theorem d_Mod_cut_234 : decode prog_14_method_12_code 234 = .ok (.iadd, 1) := by decide +kernel
theorem d_Mod_cut_235 : decode prog_14_method_12_code 235 = .ok (.invokevirtual 187, 3) := by decide +kernel
theorem d_Mod_cut_238 : decode prog_14_method_12_code 238 = .ok (.iadd, 1) := by decide +kernel
theorem d_Mod_cut_239 : decode prog_14_method_12_code 239 = .ok (.bipush 48, 2) := by decide +kernel
theorem d_Mod_cut_241 : decode prog_14_method_12_code 241 = .ok (.isub, 1) := by decide +kernel
theorem d_Mod_cut_242 : decode prog_14_method_12_code 242 = .ok (.istore 4, 2) := by decide +kernel
theorem d_Mod_cut_244 : decode prog_14_method_12_code 244 = .ok (.iinc 3 1, 3) := by decide +kernel
theorem d_Mod_cut_247 : decode prog_14_method_12_code 247 = .ok (.goto (-39), 3) := by decide +kernel
theorem d_Mod_cut_250 : decode prog_14_method_12_code 250 = .ok (.aload_n 0, 1) := by decide +kernel
theorem d_Mod_cut_251 : decode prog_14_method_12_code 251 = .ok (.iload_n 3, 1) := by decide +kernel
theorem d_Mod_cut_252 : decode prog_14_method_12_code 252 = .ok (.iconst 4, 1) := by decide +kernel
theorem d_Mod_cut_253 : decode prog_14_method_12_code 253 = .ok (.if_icmp .le 7, 3) := by decide +kernel
theorem d_Mod_cut_256 : decode prog_14_method_12_code 256 = .ok (.iconst 3, 1) := by decide +kernel
theorem d_Mod_cut_257 : decode prog_14_method_12_code 257 = .ok (.goto 4, 3) := by decide +kernel
theorem d_Mod_cut_260 : decode prog_14_method_12_code 260 = .ok (.iconst 2, 1) := by decide +kernel
theorem d_Mod_cut_261 : decode prog_14_method_12_code 261 = .ok (.iload_n 1, 1) := by decide +kernel
theorem d_Mod_cut_262 : decode prog_14_method_12_code 262 = .ok (.iload 4, 2) := by decide +kernel
theorem d_Mod_cut_264 : decode prog_14_method_12_code 264 = .ok (.lconst 0, 1) := by decide +kernel
theorem d_Mod_cut_265 : decode prog_14_method_12_code 265 = .ok (.invokevirtual 191, 3) := by decide +kernel
theorem d_Mod_cut_268 : decode prog_14_method_12_code 268 = .ok (.iload_n 1, 1) := by decide +kernel
theorem d_Mod_cut_269 : decode prog_14_method_12_code 269 = .ok (.iload_n 3, 1) := by decide +kernel
theorem d_Mod_cut_270 : decode prog_14_method_12_code 270 = .ok (.iadd, 1) := by decide +kernel
theorem d_Mod_cut_271 : decode prog_14_method_12_code 271 = .ok (.istore_n 1, 1) := by decide +kernel
theorem d_Mod_cut_272 : decode prog_14_method_12_code 272 = .ok (.goto 19, 3) := by decide +kernel
theorem d_Mod_cut_275 : decode prog_14_method_12_code 275 = .ok (.iload_n 1, 1) := by decide +kernel
theorem d_Mod_cut_276 : decode prog_14_method_12_code 276 = .ok (.aload_n 0, 1) := by decide +kernel
theorem d_Mod_cut_277 : decode prog_14_method_12_code 277 = .ok (.iload_n 1, 1) := by decide +kernel
theorem d_Mod_cut_278 : decode prog_14_method_12_code 278 = .ok (.iload_n 2, 1) := by decide +kernel
theorem d_Mod_cut_279 : decode prog_14_method_12_code 279 = .ok (.aload_n 0, 1) := by decide +kernel
theorem d_Mod_cut_280 : decode prog_14_method_12_code 280 = .ok (.iload_n 1, 1) := by decide +kernel
theorem d_Mod_cut_281 : decode prog_14_method_12_code 281 = .ok (.iconst 1, 1) := by decide +kernel
theorem d_Mod_cut_282 : decode prog_14_method_12_code 282 = .ok (.iadd, 1) := by decide +kernel
theorem d_Mod_cut_283 : decode prog_14_method_12_code 283 = .ok (.invokevirtual 187, 3) := by decide +kernel
theorem d_Mod_cut_286 : decode prog_14_method_12_code 286 = .ok (.invokevirtual 202, 3) := by decide +kernel
theorem d_Mod_cut_289 : decode prog_14_method_12_code 289 = .ok (.iadd, 1) := by decide +kernel
theorem d_Mod_cut_290 : decode prog_14_method_12_code 290 = .ok (.istore_n 1, 1) := by decide +kernel
theorem d_Mod_cut_291 : decode prog_14_method_12_code 291 = .ok (.goto (-284), 3) := by decide +kernel
theorem d_Mod_cut_294 : decode prog_14_method_12_code 294 = .ok (.return_, 1) := by decide +kernel
theorem d_Mod_sign_0 : decode prog_14_method_13_code 0 = .ok (.iload_n 2, 1) := by decide +kernel
theorem d_Mod_sign_1 : decode prog_14_method_13_code 1 = .ok (.bipush 59, 2) := by decide +kernel
theorem d_Mod_sign_3 : decode prog_14_method_13_code 3 = .ok (.if_icmp .ne 7, 3) := by decide +kernel
theorem d_Mod_sign_6 : decode prog_14_method_13_code 6 = .ok (.iconst 4, 1) := by decide +kernel
theorem d_Mod_sign_7 : decode prog_14_method_13_code 7 = .ok (.goto 36, 3) := by decide +kernel
theorem d_Mod_sign_10 : decode prog_14_method_13_code 10 = .ok (.iload_n 2, 1) := by decide +kernel
theorem d_Mod_sign_11 : decode prog_14_method_13_code 11 = .ok (.bipush 61, 2) := by decide +kernel
theorem d_Mod_sign_13 : decode prog_14_method_13_code 13 = .ok (.if_icmp .ne 7, 3) := by decide +kernel
theorem d_Mod_sign_16 : decode prog_14_method_13_code 16 = .ok (.iconst 5, 1) := by decide +kernel
theorem d_Mod_sign_17 : decode prog_14_method_13_code 17 = .ok (.goto 26, 3) := by decide +kernel
theorem d_Mod_sign_20 : decode prog_14_method_13_code 20 = .ok (.iload_n 2, 1) := by decide +kernel
theorem d_Mod_sign_21 : decode prog_14_method_13_code 21 = .ok (.bipush 40, 2) := by decide +kernel
theorem d_Mod_sign_23 : decode prog_14_method_13_code 23 = .ok (.if_icmp .ne 8, 3) := by decide +kernel
theorem d_Mod_sign_26 : decode prog_14_method_13_code 26 = .ok (.bipush 6, 2) := by decide +kernel
theorem d_Mod_sign_28 : decode prog_14_method_13_code 28 = .ok (.goto 15, 3) := by decide +kernel
theorem d_Mod_sign_31 : decode prog_14_method_13_code 31 = .ok (.iload_n 2, 1) := by decide +kernel
theorem d_Mod_sign_32 : decode prog_14_method_13_code 32 = .ok (.bipush 41, 2) := by decide +kernel
theorem d_Mod_sign_34 : decode prog_14_method_13_code 34 = .ok (.if_icmp .ne 8, 3) := by decide +kernel
theorem d_Mod_sign_37 : decode prog_14_method_13_code 37 = .ok (.bipush 7, 2) := by decide +kernel
theorem d_Mod_sign_39 : decode prog_14_method_13_code 39 = .ok (.goto 4, 3) := by decide +kernel
theorem d_Mod_sign_42 : decode prog_14_method_13_code 42 = .ok (.iconst 3, 1) := by decide +kernel
theorem d_Mod_sign_43 : decode prog_14_method_13_code 43 = .ok (.istore 4, 2) := by decide +kernel
theorem d_Mod_sign_45 : decode prog_14_method_13_code 45 = .ok (.iload_n 2, 1) := by decide +kernel
theorem d_Mod_sign_46 : decode prog_14_method_13_code 46 = .ok (.bipush 43, 2) := by decide +kernel
theorem d_Mod_sign_48 : decode prog_14_method_13_code 48 = .ok (.if_icmp .ne 7, 3) := by decide +kernel
theorem d_Mod_sign_51 : decode prog_14_method_13_code 51 = .ok (.bipush 8, 2) := by decide +kernel
theorem d_Mod_sign_53 : decode prog_14_method_13_code 53 = .ok (.istore 4, 2) := by decide +kernel
theorem d_Mod_sign_55 : decode prog_14_method_13_code 55 = .ok (.iload_n 2, 1) := by decide +kernel
theorem d_Mod_sign_56 : decode prog_14_method_13_code 56 = .ok (.bipush 45, 2) := by decide +kernel
theorem d_Mod_sign_58 : decode prog_14_method_13_code 58 = .ok (.if_icmp .ne 7, 3) := by decide +kernel
theorem d_Mod_sign_61 : decode prog_14_method_13_code 61 = .ok (.bipush 9, 2) := by decide +kernel
theorem d_Mod_sign_63 : decode prog_14_method_13_code 63 = .ok (.istore 4, 2) := by decide +kernel
theorem d_Mod_sign_65 : decode prog_14_method_13_code 65 = .ok (.iload_n 2, 1) := by decide +kernel
theorem d_Mod_sign_66 : decode prog_14_method_13_code 66 = .ok (.bipush 42, 2) := by decide +kernel
theorem d_Mod_sign_68 : decode prog_14_method_13_code 68 = .ok (.if_icmp .ne 7, 3) := by decide +kernel
theorem d_Mod_sign_71 : decode prog_14_method_13_code 71 = .ok (.bipush 10, 2) := by decide +kernel
theorem d_Mod_sign_73 : decode prog_14_method_13_code 73 = .ok (.istore 4, 2) := by decide +kernel
theorem d_Mod_sign_75 : decode prog_14_method_13_code 75 = .ok (.iload_n 2, 1) := by decide +kernel
theorem d_Mod_sign_76 : decode prog_14_method_13_code 76 = .ok (.bipush 47, 2) := by decide +kernel
theorem d_Mod_sign_78 : decode prog_14_method_13_code 78 = .ok (.if_icmp .ne 7, 3) := by decide +kernel
theorem d_Mod_sign_81 : decode prog_14_method_13_code 81 = .ok (.bipush 15, 2) := by decide +kernel
theorem d_Mod_sign_83 : decode prog_14_method_13_code 83 = .ok (.istore 4, 2) := by decide +kernel
theorem d_Mod_sign_85 : decode prog_14_method_13_code 85 = .ok (.iload_n 2, 1) := by decide +kernel
theorem d_Mod_sign_86 : decode prog_14_method_13_code 86 = .ok (.bipush 60, 2) := by decide +kernel
theorem d_Mod_sign_88 : decode prog_14_method_13_code 88 = .ok (.if_icmp .ne 7, 3) := by decide +kernel
theorem d_Mod_sign_91 : decode prog_14_method_13_code 91 = .ok (.bipush 13, 2) := by decide +kernel
theorem d_Mod_sign_93 : decode prog_14_method_13_code 93 = .ok (.istore 4, 2) := by decide +kernel
theorem d_Mod_sign_95 : decode prog_14_method_13_code 95 = .ok (.aload_n 0, 1) := by decide +kernel
theorem d_Mod_sign_96 : decode prog_14_method_13_code 96 = .ok (.iload 4, 2) := by decide +kernel
theorem d_Mod_sign_98 : decode prog_14_method_13_code 98 = .ok (.iload_n 1, 1) := by decide +kernel
theorem d_Mod_sign_99 : decode prog_14_method_13_code 99 = .ok (.iconst 0, 1) := by decide +kernel
theorem d_Mod_sign_100 : decode prog_14_method_13_code 100 = .ok (.lconst 0, 1) := by decide +kernel
theorem d_Mod_sign_101 : decode prog_14_method_13_code 101 = .ok (.invokevirtual 191, 3) := by decide +kernel
theorem d_Mod_sign_104 : decode prog_14_method_13_code 104 = .ok (.iconst 1, 1) := by decide +kernel
theorem d_Mod_sign_105 : decode prog_14_method_13_code 105 = .ok (.ireturn, 1) := by decide +kernel
theorem d_Mod_is_0 : decode prog_14_method_14_code 0 = .ok (.aload_n 0, 1) := by decide +kernel
theorem d_Mod_is_1 : decode prog_14_method_14_code 1 = .ok (.getfield 206, 3) := by decide +kernel
theorem d_Mod_is_4 : decode prog_14_method_14_code 4 = .ok (.ifCond .ne 20, 3) := by decide +kernel
theorem d_Mod_is_7 : decode prog_14_method_14_code 7 = .ok (.aload_n 0, 1) := by decide +kernel
theorem d_Mod_is_8 : decode prog_14_method_14_code 8 = .ok (.getfield 20, 3) := by decide +kernel
theorem d_Mod_is_11 : decode prog_14_method_14_code 11 = .ok (.aload_n 0, 1) := by decide +kernel
theorem d_Mod_is_12 : decode prog_14_method_14_code 12 = .ok (.getfield 209, 3) := by decide +kernel
theorem d_Mod_is_15 : decode prog_14_method_14_code 15 = .ok (.iaload, 1) := by decide +kernel
theorem d_Mod_is_16 : decode prog_14_method_14_code 16 = .ok (.iload_n 1, 1) := by decide +kernel
theorem d_Mod_is_17 : decode prog_14_method_14_code 17 = .ok (.if_icmp .ne 7, 3) := by decide +kernel
theorem d_Mod_is_20 : decode prog_14_method_14_code 20 = .ok (.iconst 1, 1) := by decide +kernel
theorem d_Mod_is_21 : decode prog_14_method_14_code 21 = .ok (.goto 4, 3) := by decide +kernel
theorem d_Mod_is_24 : decode prog_14_method_14_code 24 = .ok (.iconst 0, 1) := by decide +kernel
theorem d_Mod_is_25 : decode prog_14_method_14_code 25 = .ok (.ireturn, 1) := by decide +kernel
theorem d_Mod_fail_0 : decode prog_14_method_15_code 0 = .ok (.aload_n 0, 1) := by decide +kernel
theorem d_Mod_fail_1 : decode prog_14_method_15_code 1 = .ok (.getfield 206, 3) := by decide +kernel
theorem d_Mod_fail_4 : decode prog_14_method_15_code 4 = .ok (.ifCond .le 4, 3) := by decide +kernel
theorem d_Mod_fail_7 : decode prog_14_method_15_code 7 = .ok (.return_, 1) := by decide +kernel
theorem d_Mod_fail_8 : decode prog_14_method_15_code 8 = .ok (.aload_n 0, 1) := by decide +kernel
theorem d_Mod_fail_9 : decode prog_14_method_15_code 9 = .ok (.iload_n 1, 1) := by decide +kernel
theorem d_Mod_fail_10 : decode prog_14_method_15_code 10 = .ok (.putfield 206, 3) := by decide +kernel
theorem d_Mod_fail_13 : decode prog_14_method_15_code 13 = .ok (.aload_n 0, 1) := by decide +kernel
theorem d_Mod_fail_14 : decode prog_14_method_15_code 14 = .ok (.aload_n 0, 1) := by decide +kernel
theorem d_Mod_fail_15 : decode prog_14_method_15_code 15 = .ok (.getfield 24, 3) := by decide +kernel
theorem d_Mod_fail_18 : decode prog_14_method_15_code 18 = .ok (.aload_n 0, 1) := by decide +kernel
theorem d_Mod_fail_19 : decode prog_14_method_15_code 19 = .ok (.getfield 209, 3) := by decide +kernel
theorem d_Mod_fail_22 : decode prog_14_method_15_code 22 = .ok (.iaload, 1) := by decide +kernel
theorem d_Mod_fail_23 : decode prog_14_method_15_code 23 = .ok (.putfield 212, 3) := by decide +kernel
theorem d_Mod_fail_26 : decode prog_14_method_15_code 26 = .ok (.return_, 1) := by decide +kernel
theorem d_Mod_wrong_0 : decode prog_14_method_16_code 0 = .ok (.aload_n 0, 1) := by decide +kernel
theorem d_Mod_wrong_1 : decode prog_14_method_16_code 1 = .ok (.getfield 24, 3) := by decide +kernel
theorem d_Mod_wrong_4 : decode prog_14_method_16_code 4 = .ok (.iload_n 2, 1) := by decide +kernel
theorem d_Mod_wrong_5 : decode prog_14_method_16_code 5 = .ok (.iaload, 1) := by decide +kernel
theorem d_Mod_wrong_6 : decode prog_14_method_16_code 6 = .ok (.istore_n 3, 1) := by decide +kernel
theorem d_Mod_wrong_7 : decode prog_14_method_16_code 7 = .ok (.aload_n 0, 1) := by decide +kernel
theorem d_Mod_wrong_8 : decode prog_14_method_16_code 8 = .ok (.getfield 206, 3) := by decide +kernel
theorem d_Mod_wrong_11 : decode prog_14_method_16_code 11 = .ok (.ifCond .gt 34, 3) := by decide +kernel
theorem d_Mod_wrong_14 : decode prog_14_method_16_code 14 = .ok (.aload_n 0, 1) := by decide +kernel
theorem d_Mod_wrong_15 : decode prog_14_method_16_code 15 = .ok (.getfield 215, 3) := by decide +kernel
theorem d_Mod_wrong_18 : decode prog_14_method_16_code 18 = .ok (.ifCond .eq 28, 3) := by decide +kernel
theorem d_Mod_wrong_21 : decode prog_14_method_16_code 21 = .ok (.iload_n 3, 1) := by decide +kernel
theorem d_Mod_wrong_22 : decode prog_14_method_16_code 22 = .ok (.aload_n 0, 1) := by decide +kernel
theorem d_Mod_wrong_23 : decode prog_14_method_16_code 23 = .ok (.getfield 218, 3) := by decide +kernel
theorem d_Mod_wrong_26 : decode prog_14_method_16_code 26 = .ok (.if_icmp .gt 19, 3) := by decide +kernel
theorem d_Mod_wrong_29 : decode prog_14_method_16_code 29 = .ok (.iload_n 3, 1) := by decide +kernel
theorem d_Mod_wrong_30 : decode prog_14_method_16_code 30 = .ok (.aload_n 0, 1) := by decide +kernel
theorem d_Mod_wrong_31 : decode prog_14_method_16_code 31 = .ok (.getfield 218, 3) := by decide +kernel
theorem d_Mod_wrong_34 : decode prog_14_method_16_code 34 = .ok (.if_icmp .ne 12, 3) := by decide +kernel
theorem d_Mod_wrong_37 : decode prog_14_method_16_code 37 = .ok (.iload_n 1, 1) := by decide +kernel
theorem d_Mod_wrong_38 : decode prog_14_method_16_code 38 = .ok (.aload_n 0, 1) := by decide +kernel
theorem d_Mod_wrong_39 : decode prog_14_method_16_code 39 = .ok (.getfield 215, 3) := by decide +kernel
theorem d_Mod_wrong_42 : decode prog_14_method_16_code 42 = .ok (.if_icmp .lt 4, 3) := by decide +kernel
theorem d_Mod_wrong_45 : decode prog_14_method_16_code 45 = .ok (.return_, 1) := by decide +kernel
theorem d_Mod_wrong_46 : decode prog_14_method_16_code 46 = .ok (.aload_n 0, 1) := by decide +kernel
theorem d_Mod_wrong_47 : decode prog_14_method_16_code 47 = .ok (.iload_n 1, 1) := by decide +kernel
theorem d_Mod_wrong_48 : decode prog_14_method_16_code 48 = .ok (.putfield 215, 3) := by decide +kernel
theorem d_Mod_wrong_51 : decode prog_14_method_16_code 51 = .ok (.aload_n 0, 1) := by decide +kernel
theorem d_Mod_wrong_52 : decode prog_14_method_16_code 52 = .ok (.iload_n 3, 1) := by decide +kernel
theorem d_Mod_wrong_53 : decode prog_14_method_16_code 53 = .ok (.putfield 218, 3) := by decide +kernel
theorem d_Mod_wrong_56 : decode prog_14_method_16_code 56 = .ok (.return_, 1) := by decide +kernel
theorem d_Mod_goesOn_0 : decode prog_14_method_17_code 0 = .ok (.aload_n 0, 1) := by decide +kernel
theorem d_Mod_goesOn_1 : decode prog_14_method_17_code 1 = .ok (.getfield 209, 3) := by decide +kernel
theorem d_Mod_goesOn_4 : decode prog_14_method_17_code 4 = .ok (.sipush 400, 3) := by decide +kernel
theorem d_Mod_goesOn_7 : decode prog_14_method_17_code 7 = .ok (.if_icmp .ne 11, 3) := by decide +kernel
theorem d_Mod_goesOn_10 : decode prog_14_method_17_code 10 = .ok (.aload_n 0, 1) := by decide +kernel
theorem d_Mod_goesOn_11 : decode prog_14_method_17_code 11 = .ok (.iconst 2, 1) := by decide +kernel
theorem d_Mod_goesOn_12 : decode prog_14_method_17_code 12 = .ok (.invokevirtual 221, 3) := by decide +kernel
theorem d_Mod_goesOn_15 : decode prog_14_method_17_code 15 = .ok (.goto 13, 3) := by decide +kernel
theorem d_Mod_goesOn_18 : decode prog_14_method_17_code 18 = .ok (.aload_n 0, 1) := by decide +kernel
theorem d_Mod_goesOn_19 : decode prog_14_method_17_code 19 = .ok (.dup, 1) := by decide +kernel
theorem d_Mod_goesOn_20 : decode prog_14_method_17_code 20 = .ok (.getfield 209, 3) := by decide +kernel
theorem d_Mod_goesOn_23 : decode prog_14_method_17_code 23 = .ok (.iconst 1, 1) := by decide +kernel
theorem d_Mod_goesOn_24 : decode prog_14_method_17_code 24 = .ok (.iadd, 1) := by decide +kernel
theorem d_Mod_goesOn_25 : decode prog_14_method_17_code 25 = .ok (.putfield 209, 3) := by decide +kernel
theorem d_Mod_goesOn_28 : decode prog_14_method_17_code 28 = .ok (.return_, 1) := by decide +kernel
theorem d_Mod_must_0 : decode prog_14_method_18_code 0 = .ok (.aload_n 0, 1) := by decide +kernel
theorem d_Mod_must_1 : decode prog_14_method_18_code 1 = .ok (.iload_n 1, 1) := by decide +kernel
theorem d_Mod_must_2 : decode prog_14_method_18_code 2 = .ok (.invokevirtual 224, 3) := by decide +kernel
theorem d_Mod_must_5 : decode prog_14_method_18_code 5 = .ok (.ifCond .eq 10, 3) := by decide +kernel
theorem d_Mod_must_8 : decode prog_14_method_18_code 8 = .ok (.aload_n 0, 1) := by decide +kernel
theorem d_Mod_must_9 : decode prog_14_method_18_code 9 = .ok (.invokevirtual 227, 3) := by decide +kernel
theorem d_Mod_must_12 : decode prog_14_method_18_code 12 = .ok (.goto 8, 3) := by decide +kernel
theorem d_Mod_must_15 : decode prog_14_method_18_code 15 = .ok (.aload_n 0, 1) := by decide +kernel
theorem d_Mod_must_16 : decode prog_14_method_18_code 16 = .ok (.iconst 1, 1) := by decide +kernel
theorem d_Mod_must_17 : decode prog_14_method_18_code 17 = .ok (.invokevirtual 221, 3) := by decide +kernel
theorem d_Mod_must_20 : decode prog_14_method_18_code 20 = .ok (.return_, 1) := by decide +kernel
theorem d_Mod_plain_0 : decode prog_14_method_19_code 0 = .ok (.aload_n 0, 1) := by decide +kernel
theorem d_Mod_plain_1 : decode prog_14_method_19_code 1 = .ok (.getfield 46, 3) := by decide +kernel
theorem d_Mod_plain_4 : decode prog_14_method_19_code 4 = .ok (.iload_n 1, 1) := by decide +kernel
theorem d_Mod_plain_5 : decode prog_14_method_19_code 5 = .ok (.iconst 0, 1) := by decide +kernel
theorem d_Mod_plain_6 : decode prog_14_method_19_code 6 = .ok (.iastore, 1) := by decide +kernel
theorem d_Mod_plain_7 : decode prog_14_method_19_code 7 = .ok (.aload_n 0, 1) := by decide +kernel
theorem d_Mod_plain_8 : decode prog_14_method_19_code 8 = .ok (.getfield 58, 3) := by decide +kernel
theorem d_Mod_plain_11 : decode prog_14_method_19_code 11 = .ok (.iload_n 1, 1) := by decide +kernel
theorem d_Mod_plain_12 : decode prog_14_method_19_code 12 = .ok (.iconst 0, 1) := by decide +kernel
theorem d_Mod_plain_13 : decode prog_14_method_19_code 13 = .ok (.iastore, 1) := by decide +kernel
theorem d_Mod_plain_14 : decode prog_14_method_19_code 14 = .ok (.aload_n 0, 1) := by decide +kernel
theorem d_Mod_plain_15 : decode prog_14_method_19_code 15 = .ok (.getfield 67, 3) := by decide +kernel
theorem d_Mod_plain_18 : decode prog_14_method_19_code 18 = .ok (.iload_n 1, 1) := by decide +kernel
theorem d_Mod_plain_19 : decode prog_14_method_19_code 19 = .ok (.iconst 0, 1) := by decide +kernel
theorem d_Mod_plain_20 : decode prog_14_method_19_code 20 = .ok (.iastore, 1) := by decide +kernel
theorem d_Mod_plain_21 : decode prog_14_method_19_code 21 = .ok (.aload_n 0, 1) := by decide +kernel
theorem d_Mod_plain_22 : decode prog_14_method_19_code 22 = .ok (.getfield 73, 3) := by decide +kernel
theorem d_Mod_plain_25 : decode prog_14_method_19_code 25 = .ok (.iload_n 1, 1) := by decide +kernel
theorem d_Mod_plain_26 : decode prog_14_method_19_code 26 = .ok (.iconst 0, 1) := by decide +kernel
theorem d_Mod_plain_27 : decode prog_14_method_19_code 27 = .ok (.iastore, 1) := by decide +kernel
theorem d_Mod_plain_28 : decode prog_14_method_19_code 28 = .ok (.aload_n 0, 1) := by decide +kernel
theorem d_Mod_plain_29 : decode prog_14_method_19_code 29 = .ok (.getfield 82, 3) := by decide +kernel
theorem d_Mod_plain_32 : decode prog_14_method_19_code 32 = .ok (.iload_n 1, 1) := by decide +kernel
theorem d_Mod_plain_33 : decode prog_14_method_19_code 33 = .ok (.iconst 0, 1) := by decide +kernel
theorem d_Mod_plain_34 : decode prog_14_method_19_code 34 = .ok (.iastore, 1) := by decide +kernel
theorem d_Mod_plain_35 : decode prog_14_method_19_code 35 = .ok (.iconst 0, 1) := by decide +kernel
theorem d_Mod_plain_36 : decode prog_14_method_19_code 36 = .ok (.istore_n 2, 1) := by decide +kernel
theorem d_Mod_plain_37 : decode prog_14_method_19_code 37 = .ok (.iload_n 2, 1) := by decide +kernel
theorem d_Mod_plain_38 : decode prog_14_method_19_code 38 = .ok (.iconst 4, 1) := by decide +kernel
theorem d_Mod_plain_39 : decode prog_14_method_19_code 39 = .ok (.if_icmp .ge 31, 3) := by decide +kernel
theorem d_Mod_plain_42 : decode prog_14_method_19_code 42 = .ok (.aload_n 0, 1) := by decide +kernel
theorem d_Mod_plain_43 : decode prog_14_method_19_code 43 = .ok (.getfield 85, 3) := by decide +kernel
theorem d_Mod_plain_46 : decode prog_14_method_19_code 46 = .ok (.iconst 4, 1) := by decide +kernel
theorem d_Mod_plain_47 : decode prog_14_method_19_code 47 = .ok (.iload_n 1, 1) := by decide +kernel
theorem d_Mod_plain_48 : decode prog_14_method_19_code 48 = .ok (.imul, 1) := by decide +kernel
theorem d_Mod_plain_49 : decode prog_14_method_19_code 49 = .ok (.iload_n 2, 1) := by decide +kernel
theorem d_Mod_plain_50 : decode prog_14_method_19_code 50 = .ok (.iadd, 1) := by decide +kernel
theorem d_Mod_plain_51 : decode prog_14_method_19_code 51 = .ok (.iconst 0, 1) := by decide +kernel
theorem d_Mod_plain_52 : decode prog_14_method_19_code 52 = .ok (.iastore, 1) := by decide +kernel
theorem d_Mod_plain_53 : decode prog_14_method_19_code 53 = .ok (.aload_n 0, 1) := by decide +kernel
theorem d_Mod_plain_54 : decode prog_14_method_19_code 54 = .ok (.getfield 88, 3) := by decide +kernel
theorem d_Mod_plain_57 : decode prog_14_method_19_code 57 = .ok (.iconst 4, 1) := by decide +kernel
theorem d_Mod_plain_58 : decode prog_14_method_19_code 58 = .ok (.iload_n 1, 1) := by decide +kernel
theorem d_Mod_plain_59 : decode prog_14_method_19_code 59 = .ok (.imul, 1) := by decide +kernel
theorem d_Mod_plain_60 : decode prog_14_method_19_code 60 = .ok (.iload_n 2, 1) := by decide +kernel
theorem d_Mod_plain_61 : decode prog_14_method_19_code 61 = .ok (.iadd, 1) := by decide +kernel
theorem d_Mod_plain_62 : decode prog_14_method_19_code 62 = .ok (.iconst 0, 1) := by decide +kernel
theorem d_Mod_plain_63 : decode prog_14_method_19_code 63 = .ok (.iastore, 1) := by decide +kernel
theorem d_Mod_plain_64 : decode prog_14_method_19_code 64 = .ok (.iinc 2 1, 3) := by decide +kernel
theorem d_Mod_plain_67 : decode prog_14_method_19_code 67 = .ok (.goto (-30), 3) := by decide +kernel
theorem d_Mod_plain_70 : decode prog_14_method_19_code 70 = .ok (.return_, 1) := by decide +kernel
theorem d_Mod_read_0 : decode prog_14_method_20_code 0 = .ok (.aload_n 0, 1) := by decide +kernel
theorem d_Mod_read_1 : decode prog_14_method_20_code 1 = .ok (.aload_n 0, 1) := by decide +kernel
theorem d_Mod_read_2 : decode prog_14_method_20_code 2 = .ok (.getfield 169, 3) := by decide +kernel
theorem d_Mod_read_5 : decode prog_14_method_20_code 5 = .ok (.putfield 175, 3) := by decide +kernel
theorem d_Mod_read_8 : decode prog_14_method_20_code 8 = .ok (.iconst 0, 1) := by decide +kernel
theorem d_Mod_read_9 : decode prog_14_method_20_code 9 = .ok (.istore_n 1, 1) := by decide +kernel
theorem d_Mod_read_10 : decode prog_14_method_20_code 10 = .ok (.iload_n 1, 1) := by decide +kernel
theorem d_Mod_read_11 : decode prog_14_method_20_code 11 = .ok (.aload_n 0, 1) := by decide +kernel
theorem d_Mod_read_12 : decode prog_14_method_20_code 12 = .ok (.getfield 175, 3) := by decide +kernel
theorem d_Mod_read_15 : decode prog_14_method_20_code 15 = .ok (.if_icmp .ge 21, 3) := by decide +kernel
theorem d_Mod_read_18 : decode prog_14_method_20_code 18 = .ok (.aload_n 0, 1) := by decide +kernel
theorem d_Mod_read_19 : decode prog_14_method_20_code 19 = .ok (.getfield 17, 3) := by decide +kernel
theorem d_Mod_read_22 : decode prog_14_method_20_code 22 = .ok (.iload_n 1, 1) := by decide +kernel
theorem d_Mod_read_23 : decode prog_14_method_20_code 23 = .ok (.aload_n 0, 1) := by decide +kernel
theorem d_Mod_read_24 : decode prog_14_method_20_code 24 = .ok (.getfield 13, 3) := by decide +kernel
theorem d_Mod_read_27 : decode prog_14_method_20_code 27 = .ok (.iload_n 1, 1) := by decide +kernel
theorem d_Mod_read_28 : decode prog_14_method_20_code 28 = .ok (.baload, 1) := by decide +kernel
theorem d_Mod_read_29 : decode prog_14_method_20_code 29 = .ok (.bastore, 1) := by decide +kernel
theorem d_Mod_read_30 : decode prog_14_method_20_code 30 = .ok (.iinc 1 1, 3) := by decide +kernel
theorem d_Mod_read_33 : decode prog_14_method_20_code 33 = .ok (.goto (-23), 3) := by decide +kernel
theorem d_Mod_read_36 : decode prog_14_method_20_code 36 = .ok (.aload_n 0, 1) := by decide +kernel
theorem d_Mod_read_37 : decode prog_14_method_20_code 37 = .ok (.iconst 0, 1) := by decide +kernel
theorem d_Mod_read_38 : decode prog_14_method_20_code 38 = .ok (.putfield 169, 3) := by decide +kernel
theorem d_Mod_read_41 : decode prog_14_method_20_code 41 = .ok (.aload_n 0, 1) := by decide +kernel
theorem d_Mod_read_42 : decode prog_14_method_20_code 42 = .ok (.invokevirtual 230, 3) := by decide +kernel
theorem d_Mod_read_45 : decode prog_14_method_20_code 45 = .ok (.aload_n 0, 1) := by decide +kernel
theorem d_Mod_read_46 : decode prog_14_method_20_code 46 = .ok (.iconst 0, 1) := by decide +kernel
theorem d_Mod_read_47 : decode prog_14_method_20_code 47 = .ok (.putfield 209, 3) := by decide +kernel
theorem d_Mod_read_50 : decode prog_14_method_20_code 50 = .ok (.aload_n 0, 1) := by decide +kernel
theorem d_Mod_read_51 : decode prog_14_method_20_code 51 = .ok (.iconst 0, 1) := by decide +kernel
theorem d_Mod_read_52 : decode prog_14_method_20_code 52 = .ok (.putfield 233, 3) := by decide +kernel
theorem d_Mod_read_55 : decode prog_14_method_20_code 55 = .ok (.aload_n 0, 1) := by decide +kernel
theorem d_Mod_read_56 : decode prog_14_method_20_code 56 = .ok (.iconst 0, 1) := by decide +kernel
theorem d_Mod_read_57 : decode prog_14_method_20_code 57 = .ok (.putfield 206, 3) := by decide +kernel
theorem d_Mod_read_60 : decode prog_14_method_20_code 60 = .ok (.aload_n 0, 1) := by decide +kernel
theorem d_Mod_read_61 : decode prog_14_method_20_code 61 = .ok (.iconst 0, 1) := by decide +kernel
theorem d_Mod_read_62 : decode prog_14_method_20_code 62 = .ok (.putfield 215, 3) := by decide +kernel
theorem d_Mod_read_65 : decode prog_14_method_20_code 65 = .ok (.aload_n 0, 1) := by decide +kernel
theorem d_Mod_read_66 : decode prog_14_method_20_code 66 = .ok (.iconst 1, 1) := by decide +kernel
theorem d_Mod_read_67 : decode prog_14_method_20_code 67 = .ok (.aload_n 0, 1) := by decide +kernel
theorem d_Mod_read_68 : decode prog_14_method_20_code 68 = .ok (.getfield 236, 3) := by decide +kernel
theorem d_Mod_read_71 : decode prog_14_method_20_code 71 = .ok (.isub, 1) := by decide +kernel
theorem d_Mod_read_72 : decode prog_14_method_20_code 72 = .ok (.putfield 239, 3) := by decide +kernel
theorem d_Mod_read_75 : decode prog_14_method_20_code 75 = .ok (.aload_n 0, 1) := by decide +kernel
theorem d_Mod_read_76 : decode prog_14_method_20_code 76 = .ok (.iconst 0, 1) := by decide +kernel
theorem d_Mod_read_77 : decode prog_14_method_20_code 77 = .ok (.putfield 242, 3) := by decide +kernel
theorem d_Mod_read_80 : decode prog_14_method_20_code 80 = .ok (.aload_n 0, 1) := by decide +kernel
theorem d_Mod_read_81 : decode prog_14_method_20_code 81 = .ok (.aload_n 0, 1) := by decide +kernel
theorem d_Mod_read_82 : decode prog_14_method_20_code 82 = .ok (.getfield 239, 3) := by decide +kernel
theorem d_Mod_read_85 : decode prog_14_method_20_code 85 = .ok (.invokevirtual 155, 3) := by decide +kernel
theorem d_Mod_read_88 : decode prog_14_method_20_code 88 = .ok (.aload_n 0, 1) := by decide +kernel
theorem d_Mod_read_89 : decode prog_14_method_20_code 89 = .ok (.sipush 130, 3) := by decide +kernel
theorem d_Mod_read_92 : decode prog_14_method_20_code 92 = .ok (.aload_n 0, 1) := by decide +kernel
theorem d_Mod_read_93 : decode prog_14_method_20_code 93 = .ok (.getfield 239, 3) := by decide +kernel
theorem d_Mod_read_96 : decode prog_14_method_20_code 96 = .ok (.imul, 1) := by decide +kernel
theorem d_Mod_read_97 : decode prog_14_method_20_code 97 = .ok (.putfield 245, 3) := by decide +kernel
theorem d_Mod_read_100 : decode prog_14_method_20_code 100 = .ok (.aload_n 0, 1) := by decide +kernel
theorem d_Mod_read_101 : decode prog_14_method_20_code 101 = .ok (.sipush 420, 3) := by decide +kernel
theorem d_Mod_read_104 : decode prog_14_method_20_code 104 = .ok (.aload_n 0, 1) := by decide +kernel
theorem d_Mod_read_105 : decode prog_14_method_20_code 105 = .ok (.getfield 239, 3) := by decide +kernel
theorem d_Mod_read_108 : decode prog_14_method_20_code 108 = .ok (.imul, 1) := by decide +kernel
theorem d_Mod_read_109 : decode prog_14_method_20_code 109 = .ok (.putfield 248, 3) := by decide +kernel
theorem d_Mod_read_112 : decode prog_14_method_20_code 112 = .ok (.aload_n 0, 1) := by decide +kernel
theorem d_Mod_read_113 : decode prog_14_method_20_code 113 = .ok (.getfield 206, 3) := by decide +kernel
theorem d_Mod_read_116 : decode prog_14_method_20_code 116 = .ok (.ifCond .ne 18, 3) := by decide +kernel
theorem d_Mod_read_119 : decode prog_14_method_20_code 119 = .ok (.aload_n 0, 1) := by decide +kernel
theorem d_Mod_read_120 : decode prog_14_method_20_code 120 = .ok (.iconst 0, 1) := by decide +kernel
theorem d_Mod_read_121 : decode prog_14_method_20_code 121 = .ok (.invokevirtual 224, 3) := by decide +kernel
theorem d_Mod_read_124 : decode prog_14_method_20_code 124 = .ok (.ifCond .ne 10, 3) := by decide +kernel
theorem d_Mod_read_127 : decode prog_14_method_20_code 127 = .ok (.aload_n 0, 1) := by decide +kernel
theorem d_Mod_read_128 : decode prog_14_method_20_code 128 = .ok (.invokevirtual 251, 3) := by decide +kernel
theorem d_Mod_read_131 : decode prog_14_method_20_code 131 = .ok (.goto (-19), 3) := by decide +kernel
theorem d_Mod_read_134 : decode prog_14_method_20_code 134 = .ok (.aload_n 0, 1) := by decide +kernel
theorem d_Mod_read_135 : decode prog_14_method_20_code 135 = .ok (.aload_n 0, 1) := by decide +kernel
theorem d_Mod_read_136 : decode prog_14_method_20_code 136 = .ok (.getfield 206, 3) := by decide +kernel
theorem d_Mod_read_139 : decode prog_14_method_20_code 139 = .ok (.ifCond .le 10, 3) := by decide +kernel
theorem d_Mod_read_142 : decode prog_14_method_20_code 142 = .ok (.aload_n 0, 1) := by decide +kernel
theorem d_Mod_read_143 : decode prog_14_method_20_code 143 = .ok (.getfield 212, 3) := by decide +kernel
theorem d_Mod_read_146 : decode prog_14_method_20_code 146 = .ok (.goto 18, 3) := by decide +kernel
theorem d_Mod_read_149 : decode prog_14_method_20_code 149 = .ok (.aload_n 0, 1) := by decide +kernel
theorem d_Mod_read_150 : decode prog_14_method_20_code 150 = .ok (.getfield 215, 3) := by decide +kernel
theorem d_Mod_read_153 : decode prog_14_method_20_code 153 = .ok (.ifCond .le 10, 3) := by decide +kernel
theorem d_Mod_read_156 : decode prog_14_method_20_code 156 = .ok (.aload_n 0, 1) := by decide +kernel
theorem d_Mod_read_157 : decode prog_14_method_20_code 157 = .ok (.getfield 218, 3) := by decide +kernel
theorem d_Mod_read_160 : decode prog_14_method_20_code 160 = .ok (.goto 4, 3) := by decide +kernel
theorem d_Mod_read_163 : decode prog_14_method_20_code 163 = .ok (.iconst (-1), 1) := by decide +kernel
theorem d_Mod_read_164 : decode prog_14_method_20_code 164 = .ok (.putfield 37, 3) := by decide +kernel
theorem d_Mod_read_167 : decode prog_14_method_20_code 167 = .ok (.aload_n 0, 1) := by decide +kernel
theorem d_Mod_read_168 : decode prog_14_method_20_code 168 = .ok (.getfield 206, 3) := by decide +kernel
theorem d_Mod_read_171 : decode prog_14_method_20_code 171 = .ok (.ifCond .le 8, 3) := by decide +kernel
theorem d_Mod_read_174 : decode prog_14_method_20_code 174 = .ok (.aload_n 0, 1) := by decide +kernel
theorem d_Mod_read_175 : decode prog_14_method_20_code 175 = .ok (.getfield 206, 3) := by decide +kernel
theorem d_Mod_read_178 : decode prog_14_method_20_code 178 = .ok (.ireturn, 1) := by decide +kernel
theorem d_Mod_read_179 : decode prog_14_method_20_code 179 = .ok (.aload_n 0, 1) := by decide +kernel
theorem d_Mod_read_180 : decode prog_14_method_20_code 180 = .ok (.getfield 215, 3) := by decide +kernel
theorem d_Mod_read_183 : decode prog_14_method_20_code 183 = .ok (.ifCond .le 8, 3) := by decide +kernel
theorem d_Mod_read_186 : decode prog_14_method_20_code 186 = .ok (.aload_n 0, 1) := by decide +kernel
theorem d_Mod_read_187 : decode prog_14_method_20_code 187 = .ok (.getfield 215, 3) := by decide +kernel
theorem d_Mod_read_190 : decode prog_14_method_20_code 190 = .ok (.ireturn, 1) := by decide +kernel
theorem d_Mod_read_191 : decode prog_14_method_20_code 191 = .ok (.aload_n 0, 1) := by decide +kernel
theorem d_Mod_read_192 : decode prog_14_method_20_code 192 = .ok (.aload_n 0, 1) := by decide +kernel
theorem d_Mod_read_193 : decode prog_14_method_20_code 193 = .ok (.getfield 239, 3) := by decide +kernel
theorem d_Mod_read_196 : decode prog_14_method_20_code 196 = .ok (.putfield 236, 3) := by decide +kernel
theorem d_Mod_read_199 : decode prog_14_method_20_code 199 = .ok (.aload_n 0, 1) := by decide +kernel
theorem d_Mod_read_200 : decode prog_14_method_20_code 200 = .ok (.invokevirtual 163, 3) := by decide +kernel
theorem d_Mod_read_203 : decode prog_14_method_20_code 203 = .ok (.aload_n 0, 1) := by decide +kernel
theorem d_Mod_read_204 : decode prog_14_method_20_code 204 = .ok (.invokevirtual 166, 3) := by decide +kernel
theorem d_Mod_read_207 : decode prog_14_method_20_code 207 = .ok (.aload_n 0, 1) := by decide +kernel
theorem d_Mod_read_208 : decode prog_14_method_20_code 208 = .ok (.iconst 0, 1) := by decide +kernel
theorem d_Mod_read_209 : decode prog_14_method_20_code 209 = .ok (.putfield 254, 3) := by decide +kernel
theorem d_Mod_read_212 : decode prog_14_method_20_code 212 = .ok (.aload_n 0, 1) := by decide +kernel
theorem d_Mod_read_213 : decode prog_14_method_20_code 213 = .ok (.iconst 0, 1) := by decide +kernel
theorem d_Mod_read_214 : decode prog_14_method_20_code 214 = .ok (.putfield 257, 3) := by decide +kernel
theorem d_Mod_read_217 : decode prog_14_method_20_code 217 = .ok (.iconst 0, 1) := by decide +kernel
theorem d_Mod_read_218 : decode prog_14_method_20_code 218 = .ok (.istore_n 1, 1) := by decide +kernel
theorem d_Mod_read_219 : decode prog_14_method_20_code 219 = .ok (.iload_n 1, 1) := by decide +kernel
theorem d_Mod_read_220 : decode prog_14_method_20_code 220 = .ok (.iconst 3, 1) := by decide +kernel
theorem d_Mod_read_221 : decode prog_14_method_20_code 221 = .ok (.if_icmp .ge 16, 3) := by decide +kernel
theorem d_Mod_read_224 : decode prog_14_method_20_code 224 = .ok (.aload_n 0, 1) := by decide +kernel
theorem d_Mod_read_225 : decode prog_14_method_20_code 225 = .ok (.getfield 149, 3) := by decide +kernel
theorem d_Mod_read_228 : decode prog_14_method_20_code 228 = .ok (.iload_n 1, 1) := by decide +kernel
theorem d_Mod_read_229 : decode prog_14_method_20_code 229 = .ok (.iconst 0, 1) := by decide +kernel
theorem d_Mod_read_230 : decode prog_14_method_20_code 230 = .ok (.bastore, 1) := by decide +kernel
theorem d_Mod_read_231 : decode prog_14_method_20_code 231 = .ok (.iinc 1 1, 3) := by decide +kernel
theorem d_Mod_read_234 : decode prog_14_method_20_code 234 = .ok (.goto (-15), 3) := by decide +kernel
theorem d_Mod_read_237 : decode prog_14_method_20_code 237 = .ok (.iconst 0, 1) := by decide +kernel
theorem d_Mod_read_238 : decode prog_14_method_20_code 238 = .ok (.ireturn, 1) := by decide +kernel
theorem d_Mod_place_0 : decode prog_14_method_21_code 0 = .ok (.aload_n 0, 1) := by decide +kernel
theorem d_Mod_place_1 : decode prog_14_method_21_code 1 = .ok (.getfield 37, 3) := by decide +kernel
theorem d_Mod_place_4 : decode prog_14_method_21_code 4 = .ok (.ireturn, 1) := by decide +kernel
theorem d_Mod_roomFor_0 : decode prog_14_method_22_code 0 = .ok (.iload_n 1, 1) := by decide +kernel
theorem d_Mod_roomFor_1 : decode prog_14_method_22_code 1 = .ok (.iload_n 2, 1) := by decide +kernel
theorem d_Mod_roomFor_2 : decode prog_14_method_22_code 2 = .ok (.if_icmp .ne 8, 3) := by decide +kernel
theorem d_Mod_roomFor_5 : decode prog_14_method_22_code 5 = .ok (.aload_n 0, 1) := by decide +kernel
theorem d_Mod_roomFor_6 : decode prog_14_method_22_code 6 = .ok (.iconst 2, 1) := by decide +kernel
theorem d_Mod_roomFor_7 : decode prog_14_method_22_code 7 = .ok (.invokevirtual 221, 3) := by decide +kernel
theorem d_Mod_roomFor_10 : decode prog_14_method_22_code 10 = .ok (.aload_n 0, 1) := by decide +kernel
theorem d_Mod_roomFor_11 : decode prog_14_method_22_code 11 = .ok (.getfield 206, 3) := by decide +kernel
theorem d_Mod_roomFor_14 : decode prog_14_method_22_code 14 = .ok (.ifCond .ne 7, 3) := by decide +kernel
theorem d_Mod_roomFor_17 : decode prog_14_method_22_code 17 = .ok (.aload_n 0, 1) := by decide +kernel
theorem d_Mod_roomFor_18 : decode prog_14_method_22_code 18 = .ok (.invokevirtual 227, 3) := by decide +kernel
theorem d_Mod_roomFor_21 : decode prog_14_method_22_code 21 = .ok (.return_, 1) := by decide +kernel
theorem d_Mod_tellOne_0 : decode prog_14_method_23_code 0 = .ok (.aload_n 0, 1) := by decide +kernel
theorem d_Mod_tellOne_1 : decode prog_14_method_23_code 1 = .ok (.getfield 20, 3) := by decide +kernel
theorem d_Mod_tellOne_4 : decode prog_14_method_23_code 4 = .ok (.aload_n 0, 1) := by decide +kernel
theorem d_Mod_tellOne_5 : decode prog_14_method_23_code 5 = .ok (.getfield 209, 3) := by decide +kernel
theorem d_Mod_tellOne_8 : decode prog_14_method_23_code 8 = .ok (.iaload, 1) := by decide +kernel
theorem d_Mod_tellOne_9 : decode prog_14_method_23_code 9 = .ok (.tableswitch 335 20 28 #[51, 80, 108, 192, 335, 335, 335, 335, 306], 51) := by decide +kernel
theorem d_Mod_tellOne_60 : decode prog_14_method_23_code 60 = .ok (.aload_n 0, 1) := by decide +kernel
theorem d_Mod_tellOne_61 : decode prog_14_method_23_code 61 = .ok (.aload_n 0, 1) := by decide +kernel
theorem d_Mod_tellOne_62 : decode prog_14_method_23_code 62 = .ok (.getfield 46, 3) := by decide +kernel
theorem d_Mod_tellOne_65 : decode prog_14_method_23_code 65 = .ok (.aload_n 0, 1) := by decide +kernel
theorem d_Mod_tellOne_66 : decode prog_14_method_23_code 66 = .ok (.getfield 239, 3) := by decide +kernel
theorem d_Mod_tellOne_69 : decode prog_14_method_23_code 69 = .ok (.iaload, 1) := by decide +kernel
theorem d_Mod_tellOne_70 : decode prog_14_method_23_code 70 = .ok (.bipush 6, 2) := by decide +kernel
theorem d_Mod_tellOne_72 : decode prog_14_method_23_code 72 = .ok (.invokevirtual 260, 3) := by decide +kernel
theorem d_Mod_tellOne_75 : decode prog_14_method_23_code 75 = .ok (.aload_n 0, 1) := by decide +kernel
theorem d_Mod_tellOne_76 : decode prog_14_method_23_code 76 = .ok (.getfield 206, 3) := by decide +kernel
theorem d_Mod_tellOne_79 : decode prog_14_method_23_code 79 = .ok (.ifCond .ne 318, 3) := by decide +kernel
theorem d_Mod_tellOne_82 : decode prog_14_method_23_code 82 = .ok (.aload_n 0, 1) := by decide +kernel
theorem d_Mod_tellOne_83 : decode prog_14_method_23_code 83 = .ok (.invokevirtual 264, 3) := by decide +kernel
theorem d_Mod_tellOne_86 : decode prog_14_method_23_code 86 = .ok (.goto 311, 3) := by decide +kernel
theorem d_Mod_tellOne_89 : decode prog_14_method_23_code 89 = .ok (.aload_n 0, 1) := by decide +kernel
theorem d_Mod_tellOne_90 : decode prog_14_method_23_code 90 = .ok (.aload_n 0, 1) := by decide +kernel
theorem d_Mod_tellOne_91 : decode prog_14_method_23_code 91 = .ok (.getfield 58, 3) := by decide +kernel
theorem d_Mod_tellOne_94 : decode prog_14_method_23_code 94 = .ok (.aload_n 0, 1) := by decide +kernel
theorem d_Mod_tellOne_95 : decode prog_14_method_23_code 95 = .ok (.getfield 239, 3) := by decide +kernel
theorem d_Mod_tellOne_98 : decode prog_14_method_23_code 98 = .ok (.iaload, 1) := by decide +kernel
theorem d_Mod_tellOne_99 : decode prog_14_method_23_code 99 = .ok (.iconst 5, 1) := by decide +kernel
theorem d_Mod_tellOne_100 : decode prog_14_method_23_code 100 = .ok (.invokevirtual 260, 3) := by decide +kernel
theorem d_Mod_tellOne_103 : decode prog_14_method_23_code 103 = .ok (.aload_n 0, 1) := by decide +kernel
theorem d_Mod_tellOne_104 : decode prog_14_method_23_code 104 = .ok (.getfield 206, 3) := by decide +kernel
theorem d_Mod_tellOne_107 : decode prog_14_method_23_code 107 = .ok (.ifCond .ne 290, 3) := by decide +kernel
theorem d_Mod_tellOne_110 : decode prog_14_method_23_code 110 = .ok (.aload_n 0, 1) := by decide +kernel
theorem d_Mod_tellOne_111 : decode prog_14_method_23_code 111 = .ok (.invokevirtual 267, 3) := by decide +kernel
theorem d_Mod_tellOne_114 : decode prog_14_method_23_code 114 = .ok (.goto 283, 3) := by decide +kernel
theorem d_Mod_tellOne_117 : decode prog_14_method_23_code 117 = .ok (.aload_n 0, 1) := by decide +kernel
theorem d_Mod_tellOne_118 : decode prog_14_method_23_code 118 = .ok (.aload_n 0, 1) := by decide +kernel
theorem d_Mod_tellOne_119 : decode prog_14_method_23_code 119 = .ok (.getfield 67, 3) := by decide +kernel
theorem d_Mod_tellOne_122 : decode prog_14_method_23_code 122 = .ok (.aload_n 0, 1) := by decide +kernel
theorem d_Mod_tellOne_123 : decode prog_14_method_23_code 123 = .ok (.getfield 239, 3) := by decide +kernel
theorem d_Mod_tellOne_126 : decode prog_14_method_23_code 126 = .ok (.iaload, 1) := by decide +kernel
theorem d_Mod_tellOne_127 : decode prog_14_method_23_code 127 = .ok (.iconst 4, 1) := by decide +kernel
theorem d_Mod_tellOne_128 : decode prog_14_method_23_code 128 = .ok (.invokevirtual 260, 3) := by decide +kernel
theorem d_Mod_tellOne_131 : decode prog_14_method_23_code 131 = .ok (.aload_n 0, 1) := by decide +kernel
theorem d_Mod_tellOne_132 : decode prog_14_method_23_code 132 = .ok (.getfield 206, 3) := by decide +kernel
theorem d_Mod_tellOne_135 : decode prog_14_method_23_code 135 = .ok (.ifCond .le 4, 3) := by decide +kernel
theorem d_Mod_tellOne_138 : decode prog_14_method_23_code 138 = .ok (.return_, 1) := by decide +kernel
theorem d_Mod_tellOne_139 : decode prog_14_method_23_code 139 = .ok (.aload_n 0, 1) := by decide +kernel
theorem d_Mod_tellOne_140 : decode prog_14_method_23_code 140 = .ok (.invokevirtual 270, 3) := by decide +kernel
theorem d_Mod_tellOne_143 : decode prog_14_method_23_code 143 = .ok (.istore_n 1, 1) := by decide +kernel
theorem d_Mod_tellOne_144 : decode prog_14_method_23_code 144 = .ok (.aload_n 0, 1) := by decide +kernel
theorem d_Mod_tellOne_145 : decode prog_14_method_23_code 145 = .ok (.getfield 70, 3) := by decide +kernel
theorem d_Mod_tellOne_148 : decode prog_14_method_23_code 148 = .ok (.iconst 4, 1) := by decide +kernel
theorem d_Mod_tellOne_149 : decode prog_14_method_23_code 149 = .ok (.aload_n 0, 1) := by decide +kernel
theorem d_Mod_tellOne_150 : decode prog_14_method_23_code 150 = .ok (.getfield 239, 3) := by decide +kernel
theorem d_Mod_tellOne_153 : decode prog_14_method_23_code 153 = .ok (.imul, 1) := by decide +kernel
theorem d_Mod_tellOne_154 : decode prog_14_method_23_code 154 = .ok (.aload_n 0, 1) := by decide +kernel
theorem d_Mod_tellOne_155 : decode prog_14_method_23_code 155 = .ok (.getfield 67, 3) := by decide +kernel
theorem d_Mod_tellOne_158 : decode prog_14_method_23_code 158 = .ok (.aload_n 0, 1) := by decide +kernel
theorem d_Mod_tellOne_159 : decode prog_14_method_23_code 159 = .ok (.getfield 239, 3) := by decide +kernel
theorem d_Mod_tellOne_162 : decode prog_14_method_23_code 162 = .ok (.iaload, 1) := by decide +kernel
theorem d_Mod_tellOne_163 : decode prog_14_method_23_code 163 = .ok (.iadd, 1) := by decide +kernel
theorem d_Mod_tellOne_164 : decode prog_14_method_23_code 164 = .ok (.aload_n 0, 1) := by decide +kernel
theorem d_Mod_tellOne_165 : decode prog_14_method_23_code 165 = .ok (.iconst 0, 1) := by decide +kernel
theorem d_Mod_tellOne_166 : decode prog_14_method_23_code 166 = .ok (.bipush 9, 2) := by decide +kernel
theorem d_Mod_tellOne_168 : decode prog_14_method_23_code 168 = .ok (.invokevirtual 274, 3) := by decide +kernel
theorem d_Mod_tellOne_171 : decode prog_14_method_23_code 171 = .ok (.iastore, 1) := by decide +kernel
theorem d_Mod_tellOne_172 : decode prog_14_method_23_code 172 = .ok (.aload_n 0, 1) := by decide +kernel
theorem d_Mod_tellOne_173 : decode prog_14_method_23_code 173 = .ok (.iload_n 1, 1) := by decide +kernel
theorem d_Mod_tellOne_174 : decode prog_14_method_23_code 174 = .ok (.iconst (-1), 1) := by decide +kernel
theorem d_Mod_tellOne_175 : decode prog_14_method_23_code 175 = .ok (.invokevirtual 278, 3) := by decide +kernel
theorem d_Mod_tellOne_178 : decode prog_14_method_23_code 178 = .ok (.aload_n 0, 1) := by decide +kernel
theorem d_Mod_tellOne_179 : decode prog_14_method_23_code 179 = .ok (.getfield 206, 3) := by decide +kernel
theorem d_Mod_tellOne_182 : decode prog_14_method_23_code 182 = .ok (.ifCond .ne 215, 3) := by decide +kernel
theorem d_Mod_tellOne_185 : decode prog_14_method_23_code 185 = .ok (.aload_n 0, 1) := by decide +kernel
theorem d_Mod_tellOne_186 : decode prog_14_method_23_code 186 = .ok (.getfield 67, 3) := by decide +kernel
theorem d_Mod_tellOne_189 : decode prog_14_method_23_code 189 = .ok (.aload_n 0, 1) := by decide +kernel
theorem d_Mod_tellOne_190 : decode prog_14_method_23_code 190 = .ok (.getfield 239, 3) := by decide +kernel
theorem d_Mod_tellOne_193 : decode prog_14_method_23_code 193 = .ok (.dup2, 1) := by decide +kernel
theorem d_Mod_tellOne_194 : decode prog_14_method_23_code 194 = .ok (.iaload, 1) := by decide +kernel
theorem d_Mod_tellOne_195 : decode prog_14_method_23_code 195 = .ok (.iconst 1, 1) := by decide +kernel
theorem d_Mod_tellOne_196 : decode prog_14_method_23_code 196 = .ok (.iadd, 1) := by decide +kernel
theorem d_Mod_tellOne_197 : decode prog_14_method_23_code 197 = .ok (.iastore, 1) := by decide +kernel
theorem d_Mod_tellOne_198 : decode prog_14_method_23_code 198 = .ok (.goto 199, 3) := by decide +kernel
theorem d_Mod_tellOne_201 : decode prog_14_method_23_code 201 = .ok (.aload_n 0, 1) := by decide +kernel
theorem d_Mod_tellOne_202 : decode prog_14_method_23_code 202 = .ok (.aload_n 0, 1) := by decide +kernel
theorem d_Mod_tellOne_203 : decode prog_14_method_23_code 203 = .ok (.getfield 73, 3) := by decide +kernel
theorem d_Mod_tellOne_206 : decode prog_14_method_23_code 206 = .ok (.aload_n 0, 1) := by decide +kernel
theorem d_Mod_tellOne_207 : decode prog_14_method_23_code 207 = .ok (.getfield 239, 3) := by decide +kernel
theorem d_Mod_tellOne_210 : decode prog_14_method_23_code 210 = .ok (.iaload, 1) := by decide +kernel
theorem d_Mod_tellOne_211 : decode prog_14_method_23_code 211 = .ok (.bipush 6, 2) := by decide +kernel
theorem d_Mod_tellOne_213 : decode prog_14_method_23_code 213 = .ok (.invokevirtual 260, 3) := by decide +kernel
theorem d_Mod_tellOne_216 : decode prog_14_method_23_code 216 = .ok (.aload_n 0, 1) := by decide +kernel
theorem d_Mod_tellOne_217 : decode prog_14_method_23_code 217 = .ok (.getfield 206, 3) := by decide +kernel
theorem d_Mod_tellOne_220 : decode prog_14_method_23_code 220 = .ok (.ifCond .le 4, 3) := by decide +kernel
theorem d_Mod_tellOne_223 : decode prog_14_method_23_code 223 = .ok (.return_, 1) := by decide +kernel
theorem d_Mod_tellOne_224 : decode prog_14_method_23_code 224 = .ok (.aload_n 0, 1) := by decide +kernel
theorem d_Mod_tellOne_225 : decode prog_14_method_23_code 225 = .ok (.invokevirtual 270, 3) := by decide +kernel
theorem d_Mod_tellOne_228 : decode prog_14_method_23_code 228 = .ok (.istore_n 1, 1) := by decide +kernel
theorem d_Mod_tellOne_229 : decode prog_14_method_23_code 229 = .ok (.aload_n 0, 1) := by decide +kernel
theorem d_Mod_tellOne_230 : decode prog_14_method_23_code 230 = .ok (.getfield 76, 3) := by decide +kernel
theorem d_Mod_tellOne_233 : decode prog_14_method_23_code 233 = .ok (.bipush 6, 2) := by decide +kernel
theorem d_Mod_tellOne_235 : decode prog_14_method_23_code 235 = .ok (.aload_n 0, 1) := by decide +kernel
theorem d_Mod_tellOne_236 : decode prog_14_method_23_code 236 = .ok (.getfield 239, 3) := by decide +kernel
theorem d_Mod_tellOne_239 : decode prog_14_method_23_code 239 = .ok (.imul, 1) := by decide +kernel
theorem d_Mod_tellOne_240 : decode prog_14_method_23_code 240 = .ok (.aload_n 0, 1) := by decide +kernel
theorem d_Mod_tellOne_241 : decode prog_14_method_23_code 241 = .ok (.getfield 73, 3) := by decide +kernel
theorem d_Mod_tellOne_244 : decode prog_14_method_23_code 244 = .ok (.aload_n 0, 1) := by decide +kernel
theorem d_Mod_tellOne_245 : decode prog_14_method_23_code 245 = .ok (.getfield 239, 3) := by decide +kernel
theorem d_Mod_tellOne_248 : decode prog_14_method_23_code 248 = .ok (.iaload, 1) := by decide +kernel
theorem d_Mod_tellOne_249 : decode prog_14_method_23_code 249 = .ok (.iadd, 1) := by decide +kernel
theorem d_Mod_tellOne_250 : decode prog_14_method_23_code 250 = .ok (.aload_n 0, 1) := by decide +kernel
theorem d_Mod_tellOne_251 : decode prog_14_method_23_code 251 = .ok (.iconst 0, 1) := by decide +kernel
theorem d_Mod_tellOne_252 : decode prog_14_method_23_code 252 = .ok (.iconst 2, 1) := by decide +kernel
theorem d_Mod_tellOne_253 : decode prog_14_method_23_code 253 = .ok (.invokevirtual 274, 3) := by decide +kernel
theorem d_Mod_tellOne_256 : decode prog_14_method_23_code 256 = .ok (.iastore, 1) := by decide +kernel
theorem d_Mod_tellOne_257 : decode prog_14_method_23_code 257 = .ok (.aload_n 0, 1) := by decide +kernel
theorem d_Mod_tellOne_258 : decode prog_14_method_23_code 258 = .ok (.getfield 79, 3) := by decide +kernel
theorem d_Mod_tellOne_261 : decode prog_14_method_23_code 261 = .ok (.bipush 6, 2) := by decide +kernel
theorem d_Mod_tellOne_263 : decode prog_14_method_23_code 263 = .ok (.aload_n 0, 1) := by decide +kernel
theorem d_Mod_tellOne_264 : decode prog_14_method_23_code 264 = .ok (.getfield 239, 3) := by decide +kernel
theorem d_Mod_tellOne_267 : decode prog_14_method_23_code 267 = .ok (.imul, 1) := by decide +kernel
theorem d_Mod_tellOne_268 : decode prog_14_method_23_code 268 = .ok (.aload_n 0, 1) := by decide +kernel
theorem d_Mod_tellOne_269 : decode prog_14_method_23_code 269 = .ok (.getfield 73, 3) := by decide +kernel
theorem d_Mod_tellOne_272 : decode prog_14_method_23_code 272 = .ok (.aload_n 0, 1) := by decide +kernel
theorem d_Mod_tellOne_273 : decode prog_14_method_23_code 273 = .ok (.getfield 239, 3) := by decide +kernel
theorem d_Mod_tellOne_276 : decode prog_14_method_23_code 276 = .ok (.iaload, 1) := by decide +kernel
theorem d_Mod_tellOne_277 : decode prog_14_method_23_code 277 = .ok (.iadd, 1) := by decide +kernel
theorem d_Mod_tellOne_278 : decode prog_14_method_23_code 278 = .ok (.aload_n 0, 1) := by decide +kernel
theorem d_Mod_tellOne_279 : decode prog_14_method_23_code 279 = .ok (.iconst 0, 1) := by decide +kernel
theorem d_Mod_tellOne_280 : decode prog_14_method_23_code 280 = .ok (.bipush 99, 2) := by decide +kernel
theorem d_Mod_tellOne_282 : decode prog_14_method_23_code 282 = .ok (.invokevirtual 274, 3) := by decide +kernel
theorem d_Mod_tellOne_285 : decode prog_14_method_23_code 285 = .ok (.iastore, 1) := by decide +kernel
theorem d_Mod_tellOne_286 : decode prog_14_method_23_code 286 = .ok (.aload_n 0, 1) := by decide +kernel
theorem d_Mod_tellOne_287 : decode prog_14_method_23_code 287 = .ok (.iload_n 1, 1) := by decide +kernel
theorem d_Mod_tellOne_288 : decode prog_14_method_23_code 288 = .ok (.iconst (-1), 1) := by decide +kernel
theorem d_Mod_tellOne_289 : decode prog_14_method_23_code 289 = .ok (.invokevirtual 278, 3) := by decide +kernel
theorem d_Mod_tellOne_292 : decode prog_14_method_23_code 292 = .ok (.aload_n 0, 1) := by decide +kernel
theorem d_Mod_tellOne_293 : decode prog_14_method_23_code 293 = .ok (.getfield 206, 3) := by decide +kernel
theorem d_Mod_tellOne_296 : decode prog_14_method_23_code 296 = .ok (.ifCond .ne 101, 3) := by decide +kernel
theorem d_Mod_tellOne_299 : decode prog_14_method_23_code 299 = .ok (.aload_n 0, 1) := by decide +kernel
theorem d_Mod_tellOne_300 : decode prog_14_method_23_code 300 = .ok (.getfield 73, 3) := by decide +kernel
theorem d_Mod_tellOne_303 : decode prog_14_method_23_code 303 = .ok (.aload_n 0, 1) := by decide +kernel
theorem d_Mod_tellOne_304 : decode prog_14_method_23_code 304 = .ok (.getfield 239, 3) := by decide +kernel
theorem d_Mod_tellOne_307 : decode prog_14_method_23_code 307 = .ok (.dup2, 1) := by decide +kernel
theorem d_Mod_tellOne_308 : decode prog_14_method_23_code 308 = .ok (.iaload, 1) := by decide +kernel
theorem d_Mod_tellOne_309 : decode prog_14_method_23_code 309 = .ok (.iconst 1, 1) := by decide +kernel
theorem d_Mod_tellOne_310 : decode prog_14_method_23_code 310 = .ok (.iadd, 1) := by decide +kernel
theorem d_Mod_tellOne_311 : decode prog_14_method_23_code 311 = .ok (.iastore, 1) := by decide +kernel
theorem d_Mod_tellOne_312 : decode prog_14_method_23_code 312 = .ok (.goto 85, 3) := by decide +kernel
theorem d_Mod_tellOne_315 : decode prog_14_method_23_code 315 = .ok (.aload_n 0, 1) := by decide +kernel
theorem d_Mod_tellOne_316 : decode prog_14_method_23_code 316 = .ok (.invokevirtual 227, 3) := by decide +kernel
theorem d_Mod_tellOne_319 : decode prog_14_method_23_code 319 = .ok (.aload_n 0, 1) := by decide +kernel
theorem d_Mod_tellOne_320 : decode prog_14_method_23_code 320 = .ok (.getfield 82, 3) := by decide +kernel
theorem d_Mod_tellOne_323 : decode prog_14_method_23_code 323 = .ok (.aload_n 0, 1) := by decide +kernel
theorem d_Mod_tellOne_324 : decode prog_14_method_23_code 324 = .ok (.getfield 239, 3) := by decide +kernel
theorem d_Mod_tellOne_327 : decode prog_14_method_23_code 327 = .ok (.aload_n 0, 1) := by decide +kernel
theorem d_Mod_tellOne_328 : decode prog_14_method_23_code 328 = .ok (.iconst 0, 1) := by decide +kernel
theorem d_Mod_tellOne_329 : decode prog_14_method_23_code 329 = .ok (.sipush 9999, 3) := by decide +kernel
theorem d_Mod_tellOne_332 : decode prog_14_method_23_code 332 = .ok (.invokevirtual 274, 3) := by decide +kernel
theorem d_Mod_tellOne_335 : decode prog_14_method_23_code 335 = .ok (.iastore, 1) := by decide +kernel
theorem d_Mod_tellOne_336 : decode prog_14_method_23_code 336 = .ok (.aload_n 0, 1) := by decide +kernel
theorem d_Mod_tellOne_337 : decode prog_14_method_23_code 337 = .ok (.iconst 4, 1) := by decide +kernel
theorem d_Mod_tellOne_338 : decode prog_14_method_23_code 338 = .ok (.invokevirtual 281, 3) := by decide +kernel
theorem d_Mod_tellOne_341 : decode prog_14_method_23_code 341 = .ok (.goto 56, 3) := by decide +kernel
theorem d_Mod_tellOne_344 : decode prog_14_method_23_code 344 = .ok (.aload_n 0, 1) := by decide +kernel
theorem d_Mod_tellOne_345 : decode prog_14_method_23_code 345 = .ok (.getfield 20, 3) := by decide +kernel
theorem d_Mod_tellOne_348 : decode prog_14_method_23_code 348 = .ok (.aload_n 0, 1) := by decide +kernel
theorem d_Mod_tellOne_349 : decode prog_14_method_23_code 349 = .ok (.getfield 209, 3) := by decide +kernel
theorem d_Mod_tellOne_352 : decode prog_14_method_23_code 352 = .ok (.iaload, 1) := by decide +kernel
theorem d_Mod_tellOne_353 : decode prog_14_method_23_code 353 = .ok (.bipush 24, 2) := by decide +kernel
theorem d_Mod_tellOne_355 : decode prog_14_method_23_code 355 = .ok (.isub, 1) := by decide +kernel
theorem d_Mod_tellOne_356 : decode prog_14_method_23_code 356 = .ok (.istore_n 1, 1) := by decide +kernel
theorem d_Mod_tellOne_357 : decode prog_14_method_23_code 357 = .ok (.iload_n 1, 1) := by decide +kernel
theorem d_Mod_tellOne_358 : decode prog_14_method_23_code 358 = .ok (.ifCond .lt 17, 3) := by decide +kernel
theorem d_Mod_tellOne_361 : decode prog_14_method_23_code 361 = .ok (.aload_n 0, 1) := by decide +kernel
theorem d_Mod_tellOne_362 : decode prog_14_method_23_code 362 = .ok (.getfield 20, 3) := by decide +kernel
theorem d_Mod_tellOne_365 : decode prog_14_method_23_code 365 = .ok (.aload_n 0, 1) := by decide +kernel
theorem d_Mod_tellOne_366 : decode prog_14_method_23_code 366 = .ok (.getfield 209, 3) := by decide +kernel
theorem d_Mod_tellOne_369 : decode prog_14_method_23_code 369 = .ok (.iaload, 1) := by decide +kernel
theorem d_Mod_tellOne_370 : decode prog_14_method_23_code 370 = .ok (.bipush 27, 2) := by decide +kernel
theorem d_Mod_tellOne_372 : decode prog_14_method_23_code 372 = .ok (.if_icmp .le 8, 3) := by decide +kernel
theorem d_Mod_tellOne_375 : decode prog_14_method_23_code 375 = .ok (.aload_n 0, 1) := by decide +kernel
theorem d_Mod_tellOne_376 : decode prog_14_method_23_code 376 = .ok (.iconst 1, 1) := by decide +kernel
theorem d_Mod_tellOne_377 : decode prog_14_method_23_code 377 = .ok (.invokevirtual 221, 3) := by decide +kernel
theorem d_Mod_tellOne_380 : decode prog_14_method_23_code 380 = .ok (.aload_n 0, 1) := by decide +kernel
theorem d_Mod_tellOne_381 : decode prog_14_method_23_code 381 = .ok (.getfield 206, 3) := by decide +kernel
theorem d_Mod_tellOne_384 : decode prog_14_method_23_code 384 = .ok (.ifCond .le 4, 3) := by decide +kernel
theorem d_Mod_tellOne_387 : decode prog_14_method_23_code 387 = .ok (.return_, 1) := by decide +kernel
theorem d_Mod_tellOne_388 : decode prog_14_method_23_code 388 = .ok (.aload_n 0, 1) := by decide +kernel
theorem d_Mod_tellOne_389 : decode prog_14_method_23_code 389 = .ok (.invokevirtual 227, 3) := by decide +kernel
theorem d_Mod_tellOne_392 : decode prog_14_method_23_code 392 = .ok (.aload_n 0, 1) := by decide +kernel
theorem d_Mod_tellOne_393 : decode prog_14_method_23_code 393 = .ok (.iload_n 1, 1) := by decide +kernel
theorem d_Mod_tellOne_394 : decode prog_14_method_23_code 394 = .ok (.invokevirtual 284, 3) := by decide +kernel
theorem d_Mod_tellOne_397 : decode prog_14_method_23_code 397 = .ok (.return_, 1) := by decide +kernel
theorem d_Mod_named_0 : decode prog_14_method_24_code 0 = .ok (.aload_n 0, 1) := by decide +kernel
theorem d_Mod_named_1 : decode prog_14_method_24_code 1 = .ok (.getfield 209, 3) := by decide +kernel
theorem d_Mod_named_4 : decode prog_14_method_24_code 4 = .ok (.istore_n 1, 1) := by decide +kernel
theorem d_Mod_named_5 : decode prog_14_method_24_code 5 = .ok (.aload_n 0, 1) := by decide +kernel
theorem d_Mod_named_6 : decode prog_14_method_24_code 6 = .ok (.iconst 1, 1) := by decide +kernel
theorem d_Mod_named_7 : decode prog_14_method_24_code 7 = .ok (.invokevirtual 281, 3) := by decide +kernel
theorem d_Mod_named_10 : decode prog_14_method_24_code 10 = .ok (.iconst 0, 1) := by decide +kernel
theorem d_Mod_named_11 : decode prog_14_method_24_code 11 = .ok (.istore_n 2, 1) := by decide +kernel
theorem d_Mod_named_12 : decode prog_14_method_24_code 12 = .ok (.iload_n 2, 1) := by decide +kernel
theorem d_Mod_named_13 : decode prog_14_method_24_code 13 = .ok (.aload_n 0, 1) := by decide +kernel
theorem d_Mod_named_14 : decode prog_14_method_24_code 14 = .ok (.getfield 242, 3) := by decide +kernel
theorem d_Mod_named_17 : decode prog_14_method_24_code 17 = .ok (.if_icmp .ge 38, 3) := by decide +kernel
theorem d_Mod_named_20 : decode prog_14_method_24_code 20 = .ok (.aload_n 0, 1) := by decide +kernel
theorem d_Mod_named_21 : decode prog_14_method_24_code 21 = .ok (.getfield 206, 3) := by decide +kernel
theorem d_Mod_named_24 : decode prog_14_method_24_code 24 = .ok (.ifCond .ne 31, 3) := by decide +kernel
theorem d_Mod_named_27 : decode prog_14_method_24_code 27 = .ok (.aload_n 0, 1) := by decide +kernel
theorem d_Mod_named_28 : decode prog_14_method_24_code 28 = .ok (.getfield 40, 3) := by decide +kernel
theorem d_Mod_named_31 : decode prog_14_method_24_code 31 = .ok (.iload_n 2, 1) := by decide +kernel
theorem d_Mod_named_32 : decode prog_14_method_24_code 32 = .ok (.laload, 1) := by decide +kernel
theorem d_Mod_named_33 : decode prog_14_method_24_code 33 = .ok (.aload_n 0, 1) := by decide +kernel
theorem d_Mod_named_34 : decode prog_14_method_24_code 34 = .ok (.getfield 30, 3) := by decide +kernel
theorem d_Mod_named_37 : decode prog_14_method_24_code 37 = .ok (.iload_n 1, 1) := by decide +kernel
theorem d_Mod_named_38 : decode prog_14_method_24_code 38 = .ok (.laload, 1) := by decide +kernel
theorem d_Mod_named_39 : decode prog_14_method_24_code 39 = .ok (.lcmp, 1) := by decide +kernel
theorem d_Mod_named_40 : decode prog_14_method_24_code 40 = .ok (.ifCond .ne 9, 3) := by decide +kernel
theorem d_Mod_named_43 : decode prog_14_method_24_code 43 = .ok (.aload_n 0, 1) := by decide +kernel
theorem d_Mod_named_44 : decode prog_14_method_24_code 44 = .ok (.iconst 3, 1) := by decide +kernel
theorem d_Mod_named_45 : decode prog_14_method_24_code 45 = .ok (.iload_n 1, 1) := by decide +kernel
theorem d_Mod_named_46 : decode prog_14_method_24_code 46 = .ok (.invokevirtual 287, 3) := by decide +kernel
theorem d_Mod_named_49 : decode prog_14_method_24_code 49 = .ok (.iinc 2 1, 3) := by decide +kernel
theorem d_Mod_named_52 : decode prog_14_method_24_code 52 = .ok (.goto (-40), 3) := by decide +kernel
theorem d_Mod_named_55 : decode prog_14_method_24_code 55 = .ok (.iload_n 1, 1) := by decide +kernel
theorem d_Mod_named_56 : decode prog_14_method_24_code 56 = .ok (.ireturn, 1) := by decide +kernel
theorem d_Mod_ends_0 : decode prog_14_method_25_code 0 = .ok (.aload_n 0, 1) := by decide +kernel
theorem d_Mod_ends_1 : decode prog_14_method_25_code 1 = .ok (.iconst 4, 1) := by decide +kernel
theorem d_Mod_ends_2 : decode prog_14_method_25_code 2 = .ok (.invokevirtual 281, 3) := by decide +kernel
theorem d_Mod_ends_5 : decode prog_14_method_25_code 5 = .ok (.aload_n 0, 1) := by decide +kernel
theorem d_Mod_ends_6 : decode prog_14_method_25_code 6 = .ok (.getfield 206, 3) := by decide +kernel
theorem d_Mod_ends_9 : decode prog_14_method_25_code 9 = .ok (.ifCond .le 4, 3) := by decide +kernel
theorem d_Mod_ends_12 : decode prog_14_method_25_code 12 = .ok (.return_, 1) := by decide +kernel
theorem d_Mod_ends_13 : decode prog_14_method_25_code 13 = .ok (.aload_n 0, 1) := by decide +kernel
theorem d_Mod_ends_14 : decode prog_14_method_25_code 14 = .ok (.getfield 40, 3) := by decide +kernel
theorem d_Mod_ends_17 : decode prog_14_method_25_code 17 = .ok (.aload_n 0, 1) := by decide +kernel
theorem d_Mod_ends_18 : decode prog_14_method_25_code 18 = .ok (.getfield 242, 3) := by decide +kernel
theorem d_Mod_ends_21 : decode prog_14_method_25_code 21 = .ok (.aload_n 0, 1) := by decide +kernel
theorem d_Mod_ends_22 : decode prog_14_method_25_code 22 = .ok (.getfield 30, 3) := by decide +kernel
theorem d_Mod_ends_25 : decode prog_14_method_25_code 25 = .ok (.iload_n 1, 1) := by decide +kernel
theorem d_Mod_ends_26 : decode prog_14_method_25_code 26 = .ok (.laload, 1) := by decide +kernel
theorem d_Mod_ends_27 : decode prog_14_method_25_code 27 = .ok (.lastore, 1) := by decide +kernel
theorem d_Mod_ends_28 : decode prog_14_method_25_code 28 = .ok (.aload_n 0, 1) := by decide +kernel
theorem d_Mod_ends_29 : decode prog_14_method_25_code 29 = .ok (.getfield 43, 3) := by decide +kernel
theorem d_Mod_ends_32 : decode prog_14_method_25_code 32 = .ok (.aload_n 0, 1) := by decide +kernel
theorem d_Mod_ends_33 : decode prog_14_method_25_code 33 = .ok (.getfield 242, 3) := by decide +kernel
theorem d_Mod_ends_36 : decode prog_14_method_25_code 36 = .ok (.iload_n 2, 1) := by decide +kernel
theorem d_Mod_ends_37 : decode prog_14_method_25_code 37 = .ok (.iastore, 1) := by decide +kernel
theorem d_Mod_ends_38 : decode prog_14_method_25_code 38 = .ok (.aload_n 0, 1) := by decide +kernel
theorem d_Mod_ends_39 : decode prog_14_method_25_code 39 = .ok (.dup, 1) := by decide +kernel
theorem d_Mod_ends_40 : decode prog_14_method_25_code 40 = .ok (.getfield 242, 3) := by decide +kernel
theorem d_Mod_ends_43 : decode prog_14_method_25_code 43 = .ok (.iconst 1, 1) := by decide +kernel
theorem d_Mod_ends_44 : decode prog_14_method_25_code 44 = .ok (.iadd, 1) := by decide +kernel
theorem d_Mod_ends_45 : decode prog_14_method_25_code 45 = .ok (.putfield 242, 3) := by decide +kernel
theorem d_Mod_ends_48 : decode prog_14_method_25_code 48 = .ok (.return_, 1) := by decide +kernel
theorem d_Mod_knownFood_0 : decode prog_14_method_26_code 0 = .ok (.aload_n 0, 1) := by decide +kernel
theorem d_Mod_knownFood_1 : decode prog_14_method_26_code 1 = .ok (.getfield 209, 3) := by decide +kernel
theorem d_Mod_knownFood_4 : decode prog_14_method_26_code 4 = .ok (.istore_n 1, 1) := by decide +kernel
theorem d_Mod_knownFood_5 : decode prog_14_method_26_code 5 = .ok (.aload_n 0, 1) := by decide +kernel
theorem d_Mod_knownFood_6 : decode prog_14_method_26_code 6 = .ok (.iconst 1, 1) := by decide +kernel
theorem d_Mod_knownFood_7 : decode prog_14_method_26_code 7 = .ok (.invokevirtual 281, 3) := by decide +kernel
theorem d_Mod_knownFood_10 : decode prog_14_method_26_code 10 = .ok (.aload_n 0, 1) := by decide +kernel
theorem d_Mod_knownFood_11 : decode prog_14_method_26_code 11 = .ok (.getfield 206, 3) := by decide +kernel
theorem d_Mod_knownFood_14 : decode prog_14_method_26_code 14 = .ok (.ifCond .le 5, 3) := by decide +kernel
theorem d_Mod_knownFood_17 : decode prog_14_method_26_code 17 = .ok (.iconst (-1), 1) := by decide +kernel
theorem d_Mod_knownFood_18 : decode prog_14_method_26_code 18 = .ok (.ireturn, 1) := by decide +kernel
theorem d_Mod_knownFood_19 : decode prog_14_method_26_code 19 = .ok (.iconst 0, 1) := by decide +kernel
theorem d_Mod_knownFood_20 : decode prog_14_method_26_code 20 = .ok (.istore_n 2, 1) := by decide +kernel
theorem d_Mod_knownFood_21 : decode prog_14_method_26_code 21 = .ok (.iload_n 2, 1) := by decide +kernel
theorem d_Mod_knownFood_22 : decode prog_14_method_26_code 22 = .ok (.aload_n 0, 1) := by decide +kernel
theorem d_Mod_knownFood_23 : decode prog_14_method_26_code 23 = .ok (.getfield 242, 3) := by decide +kernel
theorem d_Mod_knownFood_26 : decode prog_14_method_26_code 26 = .ok (.if_icmp .ge 41, 3) := by decide +kernel
theorem d_Mod_knownFood_29 : decode prog_14_method_26_code 29 = .ok (.aload_n 0, 1) := by decide +kernel
theorem d_Mod_knownFood_30 : decode prog_14_method_26_code 30 = .ok (.getfield 40, 3) := by decide +kernel
theorem d_Mod_knownFood_33 : decode prog_14_method_26_code 33 = .ok (.iload_n 2, 1) := by decide +kernel
theorem d_Mod_knownFood_34 : decode prog_14_method_26_code 34 = .ok (.laload, 1) := by decide +kernel
theorem d_Mod_knownFood_35 : decode prog_14_method_26_code 35 = .ok (.aload_n 0, 1) := by decide +kernel
theorem d_Mod_knownFood_36 : decode prog_14_method_26_code 36 = .ok (.getfield 30, 3) := by decide +kernel
theorem d_Mod_knownFood_39 : decode prog_14_method_26_code 39 = .ok (.iload_n 1, 1) := by decide +kernel
theorem d_Mod_knownFood_40 : decode prog_14_method_26_code 40 = .ok (.laload, 1) := by decide +kernel
theorem d_Mod_knownFood_41 : decode prog_14_method_26_code 41 = .ok (.lcmp, 1) := by decide +kernel
theorem d_Mod_knownFood_42 : decode prog_14_method_26_code 42 = .ok (.ifCond .ne 19, 3) := by decide +kernel
theorem d_Mod_knownFood_45 : decode prog_14_method_26_code 45 = .ok (.aload_n 0, 1) := by decide +kernel
theorem d_Mod_knownFood_46 : decode prog_14_method_26_code 46 = .ok (.getfield 43, 3) := by decide +kernel
theorem d_Mod_knownFood_49 : decode prog_14_method_26_code 49 = .ok (.iload_n 2, 1) := by decide +kernel
theorem d_Mod_knownFood_50 : decode prog_14_method_26_code 50 = .ok (.iaload, 1) := by decide +kernel
theorem d_Mod_knownFood_51 : decode prog_14_method_26_code 51 = .ok (.ifCond .lt 10, 3) := by decide +kernel
theorem d_Mod_knownFood_54 : decode prog_14_method_26_code 54 = .ok (.aload_n 0, 1) := by decide +kernel
theorem d_Mod_knownFood_55 : decode prog_14_method_26_code 55 = .ok (.getfield 43, 3) := by decide +kernel
theorem d_Mod_knownFood_58 : decode prog_14_method_26_code 58 = .ok (.iload_n 2, 1) := by decide +kernel
theorem d_Mod_knownFood_59 : decode prog_14_method_26_code 59 = .ok (.iaload, 1) := by decide +kernel
theorem d_Mod_knownFood_60 : decode prog_14_method_26_code 60 = .ok (.ireturn, 1) := by decide +kernel
theorem d_Mod_knownFood_61 : decode prog_14_method_26_code 61 = .ok (.iinc 2 1, 3) := by decide +kernel
theorem d_Mod_knownFood_64 : decode prog_14_method_26_code 64 = .ok (.goto (-43), 3) := by decide +kernel
theorem d_Mod_knownFood_67 : decode prog_14_method_26_code 67 = .ok (.aload_n 0, 1) := by decide +kernel
theorem d_Mod_knownFood_68 : decode prog_14_method_26_code 68 = .ok (.iconst 4, 1) := by decide +kernel
theorem d_Mod_knownFood_69 : decode prog_14_method_26_code 69 = .ok (.iload_n 1, 1) := by decide +kernel
theorem d_Mod_knownFood_70 : decode prog_14_method_26_code 70 = .ok (.invokevirtual 287, 3) := by decide +kernel
theorem d_Mod_knownFood_73 : decode prog_14_method_26_code 73 = .ok (.iconst (-1), 1) := by decide +kernel
theorem d_Mod_knownFood_74 : decode prog_14_method_26_code 74 = .ok (.ireturn, 1) := by decide +kernel
theorem d_Mod_bounded_0 : decode prog_14_method_27_code 0 = .ok (.aload_n 0, 1) := by decide +kernel
theorem d_Mod_bounded_1 : decode prog_14_method_27_code 1 = .ok (.getfield 206, 3) := by decide +kernel
theorem d_Mod_bounded_4 : decode prog_14_method_27_code 4 = .ok (.ifCond .gt 11, 3) := by decide +kernel
theorem d_Mod_bounded_7 : decode prog_14_method_27_code 7 = .ok (.aload_n 0, 1) := by decide +kernel
theorem d_Mod_bounded_8 : decode prog_14_method_27_code 8 = .ok (.iconst 2, 1) := by decide +kernel
theorem d_Mod_bounded_9 : decode prog_14_method_27_code 9 = .ok (.invokevirtual 224, 3) := by decide +kernel
theorem d_Mod_bounded_12 : decode prog_14_method_27_code 12 = .ok (.ifCond .ne 10, 3) := by decide +kernel
theorem d_Mod_bounded_15 : decode prog_14_method_27_code 15 = .ok (.aload_n 0, 1) := by decide +kernel
theorem d_Mod_bounded_16 : decode prog_14_method_27_code 16 = .ok (.iconst 1, 1) := by decide +kernel
theorem d_Mod_bounded_17 : decode prog_14_method_27_code 17 = .ok (.invokevirtual 221, 3) := by decide +kernel
theorem d_Mod_bounded_20 : decode prog_14_method_27_code 20 = .ok (.iload_n 1, 1) := by decide +kernel
theorem d_Mod_bounded_21 : decode prog_14_method_27_code 21 = .ok (.ireturn, 1) := by decide +kernel
theorem d_Mod_bounded_22 : decode prog_14_method_27_code 22 = .ok (.aload_n 0, 1) := by decide +kernel
theorem d_Mod_bounded_23 : decode prog_14_method_27_code 23 = .ok (.getfield 27, 3) := by decide +kernel
theorem d_Mod_bounded_26 : decode prog_14_method_27_code 26 = .ok (.aload_n 0, 1) := by decide +kernel
theorem d_Mod_bounded_27 : decode prog_14_method_27_code 27 = .ok (.getfield 209, 3) := by decide +kernel
theorem d_Mod_bounded_30 : decode prog_14_method_27_code 30 = .ok (.iaload, 1) := by decide +kernel
theorem d_Mod_bounded_31 : decode prog_14_method_27_code 31 = .ok (.istore_n 3, 1) := by decide +kernel
theorem d_Mod_bounded_32 : decode prog_14_method_27_code 32 = .ok (.iload_n 3, 1) := by decide +kernel
theorem d_Mod_bounded_33 : decode prog_14_method_27_code 33 = .ok (.iload_n 1, 1) := by decide +kernel
theorem d_Mod_bounded_34 : decode prog_14_method_27_code 34 = .ok (.if_icmp .lt 8, 3) := by decide +kernel
theorem d_Mod_bounded_37 : decode prog_14_method_27_code 37 = .ok (.iload_n 3, 1) := by decide +kernel
theorem d_Mod_bounded_38 : decode prog_14_method_27_code 38 = .ok (.iload_n 2, 1) := by decide +kernel
theorem d_Mod_bounded_39 : decode prog_14_method_27_code 39 = .ok (.if_icmp .le 12, 3) := by decide +kernel
theorem d_Mod_bounded_42 : decode prog_14_method_27_code 42 = .ok (.aload_n 0, 1) := by decide +kernel
theorem d_Mod_bounded_43 : decode prog_14_method_27_code 43 = .ok (.iconst 5, 1) := by decide +kernel
theorem d_Mod_bounded_44 : decode prog_14_method_27_code 44 = .ok (.aload_n 0, 1) := by decide +kernel
theorem d_Mod_bounded_45 : decode prog_14_method_27_code 45 = .ok (.getfield 209, 3) := by decide +kernel
theorem d_Mod_bounded_48 : decode prog_14_method_27_code 48 = .ok (.invokevirtual 287, 3) := by decide +kernel
theorem d_Mod_bounded_51 : decode prog_14_method_27_code 51 = .ok (.aload_n 0, 1) := by decide +kernel
theorem d_Mod_bounded_52 : decode prog_14_method_27_code 52 = .ok (.invokevirtual 227, 3) := by decide +kernel
theorem d_Mod_bounded_55 : decode prog_14_method_27_code 55 = .ok (.iload_n 3, 1) := by decide +kernel
theorem d_Mod_bounded_56 : decode prog_14_method_27_code 56 = .ok (.ireturn, 1) := by decide +kernel
theorem d_Mod_tellFood_0 : decode prog_14_method_28_code 0 = .ok (.bipush 6, 2) := by decide +kernel
theorem d_Mod_tellFood_2 : decode prog_14_method_28_code 2 = .ok (.aload_n 0, 1) := by decide +kernel
theorem d_Mod_tellFood_3 : decode prog_14_method_28_code 3 = .ok (.getfield 239, 3) := by decide +kernel
theorem d_Mod_tellFood_6 : decode prog_14_method_28_code 6 = .ok (.imul, 1) := by decide +kernel
theorem d_Mod_tellFood_7 : decode prog_14_method_28_code 7 = .ok (.aload_n 0, 1) := by decide +kernel
theorem d_Mod_tellFood_8 : decode prog_14_method_28_code 8 = .ok (.getfield 46, 3) := by decide +kernel
theorem d_Mod_tellFood_11 : decode prog_14_method_28_code 11 = .ok (.aload_n 0, 1) := by decide +kernel
theorem d_Mod_tellFood_12 : decode prog_14_method_28_code 12 = .ok (.getfield 239, 3) := by decide +kernel
theorem d_Mod_tellFood_15 : decode prog_14_method_28_code 15 = .ok (.iaload, 1) := by decide +kernel
theorem d_Mod_tellFood_16 : decode prog_14_method_28_code 16 = .ok (.iadd, 1) := by decide +kernel
theorem d_Mod_tellFood_17 : decode prog_14_method_28_code 17 = .ok (.istore_n 1, 1) := by decide +kernel
theorem d_Mod_tellFood_18 : decode prog_14_method_28_code 18 = .ok (.aload_n 0, 1) := by decide +kernel
theorem d_Mod_tellFood_19 : decode prog_14_method_28_code 19 = .ok (.invokevirtual 270, 3) := by decide +kernel
theorem d_Mod_tellFood_22 : decode prog_14_method_28_code 22 = .ok (.istore_n 2, 1) := by decide +kernel
theorem d_Mod_tellFood_23 : decode prog_14_method_28_code 23 = .ok (.aload_n 0, 1) := by decide +kernel
theorem d_Mod_tellFood_24 : decode prog_14_method_28_code 24 = .ok (.getfield 49, 3) := by decide +kernel
theorem d_Mod_tellFood_27 : decode prog_14_method_28_code 27 = .ok (.iload_n 1, 1) := by decide +kernel
theorem d_Mod_tellFood_28 : decode prog_14_method_28_code 28 = .ok (.aload_n 0, 1) := by decide +kernel
theorem d_Mod_tellFood_29 : decode prog_14_method_28_code 29 = .ok (.iconst 0, 1) := by decide +kernel
theorem d_Mod_tellFood_30 : decode prog_14_method_28_code 30 = .ok (.bipush 99, 2) := by decide +kernel
theorem d_Mod_tellFood_32 : decode prog_14_method_28_code 32 = .ok (.invokevirtual 274, 3) := by decide +kernel
theorem d_Mod_tellFood_35 : decode prog_14_method_28_code 35 = .ok (.iastore, 1) := by decide +kernel
theorem d_Mod_tellFood_36 : decode prog_14_method_28_code 36 = .ok (.aload_n 0, 1) := by decide +kernel
theorem d_Mod_tellFood_37 : decode prog_14_method_28_code 37 = .ok (.getfield 52, 3) := by decide +kernel
theorem d_Mod_tellFood_40 : decode prog_14_method_28_code 40 = .ok (.iload_n 1, 1) := by decide +kernel
theorem d_Mod_tellFood_41 : decode prog_14_method_28_code 41 = .ok (.aload_n 0, 1) := by decide +kernel
theorem d_Mod_tellFood_42 : decode prog_14_method_28_code 42 = .ok (.iconst 0, 1) := by decide +kernel
theorem d_Mod_tellFood_43 : decode prog_14_method_28_code 43 = .ok (.bipush 9, 2) := by decide +kernel
theorem d_Mod_tellFood_45 : decode prog_14_method_28_code 45 = .ok (.invokevirtual 274, 3) := by decide +kernel
theorem d_Mod_tellFood_48 : decode prog_14_method_28_code 48 = .ok (.iastore, 1) := by decide +kernel
theorem d_Mod_tellFood_49 : decode prog_14_method_28_code 49 = .ok (.iconst 0, 1) := by decide +kernel
theorem d_Mod_tellFood_50 : decode prog_14_method_28_code 50 = .ok (.istore_n 3, 1) := by decide +kernel
theorem d_Mod_tellFood_51 : decode prog_14_method_28_code 51 = .ok (.iload_n 3, 1) := by decide +kernel
theorem d_Mod_tellFood_52 : decode prog_14_method_28_code 52 = .ok (.iconst 3, 1) := by decide +kernel
theorem d_Mod_tellFood_53 : decode prog_14_method_28_code 53 = .ok (.if_icmp .ge 26, 3) := by decide +kernel
theorem d_Mod_tellFood_56 : decode prog_14_method_28_code 56 = .ok (.aload_n 0, 1) := by decide +kernel
theorem d_Mod_tellFood_57 : decode prog_14_method_28_code 57 = .ok (.getfield 55, 3) := by decide +kernel
theorem d_Mod_tellFood_60 : decode prog_14_method_28_code 60 = .ok (.iconst 3, 1) := by decide +kernel
theorem d_Mod_tellFood_61 : decode prog_14_method_28_code 61 = .ok (.iload_n 1, 1) := by decide +kernel
theorem d_Mod_tellFood_62 : decode prog_14_method_28_code 62 = .ok (.imul, 1) := by decide +kernel
theorem d_Mod_tellFood_63 : decode prog_14_method_28_code 63 = .ok (.iload_n 3, 1) := by decide +kernel
theorem d_Mod_tellFood_64 : decode prog_14_method_28_code 64 = .ok (.iadd, 1) := by decide +kernel
theorem d_Mod_tellFood_65 : decode prog_14_method_28_code 65 = .ok (.aload_n 0, 1) := by decide +kernel
theorem d_Mod_tellFood_66 : decode prog_14_method_28_code 66 = .ok (.iconst 0, 1) := by decide +kernel
theorem d_Mod_tellFood_67 : decode prog_14_method_28_code 67 = .ok (.bipush 9, 2) := by decide +kernel
theorem d_Mod_tellFood_69 : decode prog_14_method_28_code 69 = .ok (.invokevirtual 274, 3) := by decide +kernel
theorem d_Mod_tellFood_72 : decode prog_14_method_28_code 72 = .ok (.iastore, 1) := by decide +kernel
theorem d_Mod_tellFood_73 : decode prog_14_method_28_code 73 = .ok (.iinc 3 1, 3) := by decide +kernel
theorem d_Mod_tellFood_76 : decode prog_14_method_28_code 76 = .ok (.goto (-25), 3) := by decide +kernel
theorem d_Mod_tellFood_79 : decode prog_14_method_28_code 79 = .ok (.aload_n 0, 1) := by decide +kernel
theorem d_Mod_tellFood_80 : decode prog_14_method_28_code 80 = .ok (.iload_n 2, 1) := by decide +kernel
theorem d_Mod_tellFood_81 : decode prog_14_method_28_code 81 = .ok (.aload_n 0, 1) := by decide +kernel
theorem d_Mod_tellFood_82 : decode prog_14_method_28_code 82 = .ok (.getfield 46, 3) := by decide +kernel
theorem d_Mod_tellFood_85 : decode prog_14_method_28_code 85 = .ok (.aload_n 0, 1) := by decide +kernel
theorem d_Mod_tellFood_86 : decode prog_14_method_28_code 86 = .ok (.getfield 239, 3) := by decide +kernel
theorem d_Mod_tellFood_89 : decode prog_14_method_28_code 89 = .ok (.iaload, 1) := by decide +kernel
theorem d_Mod_tellFood_90 : decode prog_14_method_28_code 90 = .ok (.invokevirtual 278, 3) := by decide +kernel
theorem d_Mod_tellFood_93 : decode prog_14_method_28_code 93 = .ok (.aload_n 0, 1) := by decide +kernel
theorem d_Mod_tellFood_94 : decode prog_14_method_28_code 94 = .ok (.getfield 206, 3) := by decide +kernel
theorem d_Mod_tellFood_97 : decode prog_14_method_28_code 97 = .ok (.ifCond .ne 16, 3) := by decide +kernel
theorem d_Mod_tellFood_100 : decode prog_14_method_28_code 100 = .ok (.aload_n 0, 1) := by decide +kernel
theorem d_Mod_tellFood_101 : decode prog_14_method_28_code 101 = .ok (.getfield 46, 3) := by decide +kernel
theorem d_Mod_tellFood_104 : decode prog_14_method_28_code 104 = .ok (.aload_n 0, 1) := by decide +kernel
theorem d_Mod_tellFood_105 : decode prog_14_method_28_code 105 = .ok (.getfield 239, 3) := by decide +kernel
theorem d_Mod_tellFood_108 : decode prog_14_method_28_code 108 = .ok (.dup2, 1) := by decide +kernel
theorem d_Mod_tellFood_109 : decode prog_14_method_28_code 109 = .ok (.iaload, 1) := by decide +kernel
theorem d_Mod_tellFood_110 : decode prog_14_method_28_code 110 = .ok (.iconst 1, 1) := by decide +kernel
theorem d_Mod_tellFood_111 : decode prog_14_method_28_code 111 = .ok (.iadd, 1) := by decide +kernel
theorem d_Mod_tellFood_112 : decode prog_14_method_28_code 112 = .ok (.iastore, 1) := by decide +kernel
theorem d_Mod_tellFood_113 : decode prog_14_method_28_code 113 = .ok (.return_, 1) := by decide +kernel
theorem d_Mod_tellDish_0 : decode prog_14_method_29_code 0 = .ok (.iconst 5, 1) := by decide +kernel
theorem d_Mod_tellDish_1 : decode prog_14_method_29_code 1 = .ok (.aload_n 0, 1) := by decide +kernel
theorem d_Mod_tellDish_2 : decode prog_14_method_29_code 2 = .ok (.getfield 239, 3) := by decide +kernel
theorem d_Mod_tellDish_5 : decode prog_14_method_29_code 5 = .ok (.imul, 1) := by decide +kernel
theorem d_Mod_tellDish_6 : decode prog_14_method_29_code 6 = .ok (.aload_n 0, 1) := by decide +kernel
theorem d_Mod_tellDish_7 : decode prog_14_method_29_code 7 = .ok (.getfield 58, 3) := by decide +kernel
theorem d_Mod_tellDish_10 : decode prog_14_method_29_code 10 = .ok (.aload_n 0, 1) := by decide +kernel
theorem d_Mod_tellDish_11 : decode prog_14_method_29_code 11 = .ok (.getfield 239, 3) := by decide +kernel
theorem d_Mod_tellDish_14 : decode prog_14_method_29_code 14 = .ok (.iaload, 1) := by decide +kernel
theorem d_Mod_tellDish_15 : decode prog_14_method_29_code 15 = .ok (.iadd, 1) := by decide +kernel
theorem d_Mod_tellDish_16 : decode prog_14_method_29_code 16 = .ok (.istore_n 1, 1) := by decide +kernel
theorem d_Mod_tellDish_17 : decode prog_14_method_29_code 17 = .ok (.aload_n 0, 1) := by decide +kernel
theorem d_Mod_tellDish_18 : decode prog_14_method_29_code 18 = .ok (.invokevirtual 270, 3) := by decide +kernel
theorem d_Mod_tellDish_21 : decode prog_14_method_29_code 21 = .ok (.istore_n 2, 1) := by decide +kernel
theorem d_Mod_tellDish_22 : decode prog_14_method_29_code 22 = .ok (.aload_n 0, 1) := by decide +kernel
theorem d_Mod_tellDish_23 : decode prog_14_method_29_code 23 = .ok (.getfield 61, 3) := by decide +kernel
theorem d_Mod_tellDish_26 : decode prog_14_method_29_code 26 = .ok (.iload_n 1, 1) := by decide +kernel
theorem d_Mod_tellDish_27 : decode prog_14_method_29_code 27 = .ok (.aload_n 0, 1) := by decide +kernel
theorem d_Mod_tellDish_28 : decode prog_14_method_29_code 28 = .ok (.iconst 0, 1) := by decide +kernel
theorem d_Mod_tellDish_29 : decode prog_14_method_29_code 29 = .ok (.bipush 9, 2) := by decide +kernel
theorem d_Mod_tellDish_31 : decode prog_14_method_29_code 31 = .ok (.invokevirtual 274, 3) := by decide +kernel
theorem d_Mod_tellDish_34 : decode prog_14_method_29_code 34 = .ok (.iastore, 1) := by decide +kernel
theorem d_Mod_tellDish_35 : decode prog_14_method_29_code 35 = .ok (.iconst 0, 1) := by decide +kernel
theorem d_Mod_tellDish_36 : decode prog_14_method_29_code 36 = .ok (.istore_n 3, 1) := by decide +kernel
theorem d_Mod_tellDish_37 : decode prog_14_method_29_code 37 = .ok (.iload_n 3, 1) := by decide +kernel
theorem d_Mod_tellDish_38 : decode prog_14_method_29_code 38 = .ok (.bipush 6, 2) := by decide +kernel
theorem d_Mod_tellDish_40 : decode prog_14_method_29_code 40 = .ok (.if_icmp .ge 21, 3) := by decide +kernel
theorem d_Mod_tellDish_43 : decode prog_14_method_29_code 43 = .ok (.aload_n 0, 1) := by decide +kernel
theorem d_Mod_tellDish_44 : decode prog_14_method_29_code 44 = .ok (.getfield 64, 3) := by decide +kernel
theorem d_Mod_tellDish_47 : decode prog_14_method_29_code 47 = .ok (.bipush 6, 2) := by decide +kernel
theorem d_Mod_tellDish_49 : decode prog_14_method_29_code 49 = .ok (.iload_n 1, 1) := by decide +kernel
theorem d_Mod_tellDish_50 : decode prog_14_method_29_code 50 = .ok (.imul, 1) := by decide +kernel
theorem d_Mod_tellDish_51 : decode prog_14_method_29_code 51 = .ok (.iload_n 3, 1) := by decide +kernel
theorem d_Mod_tellDish_52 : decode prog_14_method_29_code 52 = .ok (.iadd, 1) := by decide +kernel
theorem d_Mod_tellDish_53 : decode prog_14_method_29_code 53 = .ok (.iconst 0, 1) := by decide +kernel
theorem d_Mod_tellDish_54 : decode prog_14_method_29_code 54 = .ok (.iastore, 1) := by decide +kernel
theorem d_Mod_tellDish_55 : decode prog_14_method_29_code 55 = .ok (.iinc 3 1, 3) := by decide +kernel
theorem d_Mod_tellDish_58 : decode prog_14_method_29_code 58 = .ok (.goto (-21), 3) := by decide +kernel
theorem d_Mod_tellDish_61 : decode prog_14_method_29_code 61 = .ok (.iconst 0, 1) := by decide +kernel
theorem d_Mod_tellDish_62 : decode prog_14_method_29_code 62 = .ok (.istore_n 3, 1) := by decide +kernel
theorem d_Mod_tellDish_63 : decode prog_14_method_29_code 63 = .ok (.iload_n 3, 1) := by decide +kernel
theorem d_Mod_tellDish_64 : decode prog_14_method_29_code 64 = .ok (.bipush 6, 2) := by decide +kernel
theorem d_Mod_tellDish_66 : decode prog_14_method_29_code 66 = .ok (.if_icmp .ne 8, 3) := by decide +kernel
theorem d_Mod_tellDish_69 : decode prog_14_method_29_code 69 = .ok (.aload_n 0, 1) := by decide +kernel
theorem d_Mod_tellDish_70 : decode prog_14_method_29_code 70 = .ok (.iconst 2, 1) := by decide +kernel
theorem d_Mod_tellDish_71 : decode prog_14_method_29_code 71 = .ok (.invokevirtual 221, 3) := by decide +kernel
theorem d_Mod_tellDish_74 : decode prog_14_method_29_code 74 = .ok (.aload_n 0, 1) := by decide +kernel
theorem d_Mod_tellDish_75 : decode prog_14_method_29_code 75 = .ok (.getfield 206, 3) := by decide +kernel
theorem d_Mod_tellDish_78 : decode prog_14_method_29_code 78 = .ok (.ifCond .le 4, 3) := by decide +kernel
theorem d_Mod_tellDish_81 : decode prog_14_method_29_code 81 = .ok (.return_, 1) := by decide +kernel
theorem d_Mod_tellDish_82 : decode prog_14_method_29_code 82 = .ok (.aload_n 0, 1) := by decide +kernel
theorem d_Mod_tellDish_83 : decode prog_14_method_29_code 83 = .ok (.invokevirtual 290, 3) := by decide +kernel
theorem d_Mod_tellDish_86 : decode prog_14_method_29_code 86 = .ok (.istore 4, 2) := by decide +kernel
theorem d_Mod_tellDish_88 : decode prog_14_method_29_code 88 = .ok (.iload 4, 2) := by decide +kernel
theorem d_Mod_tellDish_90 : decode prog_14_method_29_code 90 = .ok (.ifCond .lt 19, 3) := by decide +kernel
theorem d_Mod_tellDish_93 : decode prog_14_method_29_code 93 = .ok (.aload_n 0, 1) := by decide +kernel
theorem d_Mod_tellDish_94 : decode prog_14_method_29_code 94 = .ok (.getfield 64, 3) := by decide +kernel
theorem d_Mod_tellDish_97 : decode prog_14_method_29_code 97 = .ok (.bipush 6, 2) := by decide +kernel
theorem d_Mod_tellDish_99 : decode prog_14_method_29_code 99 = .ok (.iload_n 1, 1) := by decide +kernel
theorem d_Mod_tellDish_100 : decode prog_14_method_29_code 100 = .ok (.imul, 1) := by decide +kernel
theorem d_Mod_tellDish_101 : decode prog_14_method_29_code 101 = .ok (.iload 4, 2) := by decide +kernel
theorem d_Mod_tellDish_103 : decode prog_14_method_29_code 103 = .ok (.iadd, 1) := by decide +kernel
theorem d_Mod_tellDish_104 : decode prog_14_method_29_code 104 = .ok (.dup2, 1) := by decide +kernel
theorem d_Mod_tellDish_105 : decode prog_14_method_29_code 105 = .ok (.iaload, 1) := by decide +kernel
theorem d_Mod_tellDish_106 : decode prog_14_method_29_code 106 = .ok (.iconst 1, 1) := by decide +kernel
theorem d_Mod_tellDish_107 : decode prog_14_method_29_code 107 = .ok (.iadd, 1) := by decide +kernel
theorem d_Mod_tellDish_108 : decode prog_14_method_29_code 108 = .ok (.iastore, 1) := by decide +kernel
theorem d_Mod_tellDish_109 : decode prog_14_method_29_code 109 = .ok (.iinc 3 1, 3) := by decide +kernel
theorem d_Mod_tellDish_112 : decode prog_14_method_29_code 112 = .ok (.aload_n 0, 1) := by decide +kernel
theorem d_Mod_tellDish_113 : decode prog_14_method_29_code 113 = .ok (.getfield 206, 3) := by decide +kernel
theorem d_Mod_tellDish_116 : decode prog_14_method_29_code 116 = .ok (.ifCond .ne 11, 3) := by decide +kernel
theorem d_Mod_tellDish_119 : decode prog_14_method_29_code 119 = .ok (.aload_n 0, 1) := by decide +kernel
theorem d_Mod_tellDish_120 : decode prog_14_method_29_code 120 = .ok (.iconst 1, 1) := by decide +kernel
theorem d_Mod_tellDish_121 : decode prog_14_method_29_code 121 = .ok (.invokevirtual 224, 3) := by decide +kernel
theorem d_Mod_tellDish_124 : decode prog_14_method_29_code 124 = .ok (.ifCond .ne (-61), 3) := by decide +kernel
theorem d_Mod_tellDish_127 : decode prog_14_method_29_code 127 = .ok (.aload_n 0, 1) := by decide +kernel
theorem d_Mod_tellDish_128 : decode prog_14_method_29_code 128 = .ok (.iload_n 2, 1) := by decide +kernel
theorem d_Mod_tellDish_129 : decode prog_14_method_29_code 129 = .ok (.iconst (-1), 1) := by decide +kernel
theorem d_Mod_tellDish_130 : decode prog_14_method_29_code 130 = .ok (.invokevirtual 278, 3) := by decide +kernel
theorem d_Mod_tellDish_133 : decode prog_14_method_29_code 133 = .ok (.aload_n 0, 1) := by decide +kernel
theorem d_Mod_tellDish_134 : decode prog_14_method_29_code 134 = .ok (.getfield 206, 3) := by decide +kernel
theorem d_Mod_tellDish_137 : decode prog_14_method_29_code 137 = .ok (.ifCond .ne 16, 3) := by decide +kernel
theorem d_Mod_tellDish_140 : decode prog_14_method_29_code 140 = .ok (.aload_n 0, 1) := by decide +kernel
theorem d_Mod_tellDish_141 : decode prog_14_method_29_code 141 = .ok (.getfield 58, 3) := by decide +kernel
theorem d_Mod_tellDish_144 : decode prog_14_method_29_code 144 = .ok (.aload_n 0, 1) := by decide +kernel
theorem d_Mod_tellDish_145 : decode prog_14_method_29_code 145 = .ok (.getfield 239, 3) := by decide +kernel
theorem d_Mod_tellDish_148 : decode prog_14_method_29_code 148 = .ok (.dup2, 1) := by decide +kernel
theorem d_Mod_tellDish_149 : decode prog_14_method_29_code 149 = .ok (.iaload, 1) := by decide +kernel
theorem d_Mod_tellDish_150 : decode prog_14_method_29_code 150 = .ok (.iconst 1, 1) := by decide +kernel
theorem d_Mod_tellDish_151 : decode prog_14_method_29_code 151 = .ok (.iadd, 1) := by decide +kernel
theorem d_Mod_tellDish_152 : decode prog_14_method_29_code 152 = .ok (.iastore, 1) := by decide +kernel
theorem d_Mod_tellDish_153 : decode prog_14_method_29_code 153 = .ok (.return_, 1) := by decide +kernel
theorem d_Mod_tellLaw_0 : decode prog_14_method_30_code 0 = .ok (.aload_n 0, 1) := by decide +kernel
theorem d_Mod_tellLaw_1 : decode prog_14_method_30_code 1 = .ok (.iconst 5, 1) := by decide +kernel
theorem d_Mod_tellLaw_2 : decode prog_14_method_30_code 2 = .ok (.invokevirtual 281, 3) := by decide +kernel
theorem d_Mod_tellLaw_5 : decode prog_14_method_30_code 5 = .ok (.aload_n 0, 1) := by decide +kernel
theorem d_Mod_tellLaw_6 : decode prog_14_method_30_code 6 = .ok (.getfield 245, 3) := by decide +kernel
theorem d_Mod_tellLaw_9 : decode prog_14_method_30_code 9 = .ok (.istore_n 2, 1) := by decide +kernel
theorem d_Mod_tellLaw_10 : decode prog_14_method_30_code 10 = .ok (.iconst 0, 1) := by decide +kernel
theorem d_Mod_tellLaw_11 : decode prog_14_method_30_code 11 = .ok (.istore_n 3, 1) := by decide +kernel
theorem d_Mod_tellLaw_12 : decode prog_14_method_30_code 12 = .ok (.aload_n 0, 1) := by decide +kernel
theorem d_Mod_tellLaw_13 : decode prog_14_method_30_code 13 = .ok (.getfield 206, 3) := by decide +kernel
theorem d_Mod_tellLaw_16 : decode prog_14_method_30_code 16 = .ok (.ifCond .ne 113, 3) := by decide +kernel
theorem d_Mod_tellLaw_19 : decode prog_14_method_30_code 19 = .ok (.aload_n 0, 1) := by decide +kernel
theorem d_Mod_tellLaw_20 : decode prog_14_method_30_code 20 = .ok (.bipush 29, 2) := by decide +kernel
theorem d_Mod_tellLaw_22 : decode prog_14_method_30_code 22 = .ok (.invokevirtual 224, 3) := by decide +kernel
theorem d_Mod_tellLaw_25 : decode prog_14_method_30_code 25 = .ok (.ifCond .eq 104, 3) := by decide +kernel
theorem d_Mod_tellLaw_28 : decode prog_14_method_30_code 28 = .ok (.iload_n 3, 1) := by decide +kernel
theorem d_Mod_tellLaw_29 : decode prog_14_method_30_code 29 = .ok (.iconst 4, 1) := by decide +kernel
theorem d_Mod_tellLaw_30 : decode prog_14_method_30_code 30 = .ok (.if_icmp .ne 8, 3) := by decide +kernel
theorem d_Mod_tellLaw_33 : decode prog_14_method_30_code 33 = .ok (.aload_n 0, 1) := by decide +kernel
theorem d_Mod_tellLaw_34 : decode prog_14_method_30_code 34 = .ok (.iconst 2, 1) := by decide +kernel
theorem d_Mod_tellLaw_35 : decode prog_14_method_30_code 35 = .ok (.invokevirtual 221, 3) := by decide +kernel
theorem d_Mod_tellLaw_38 : decode prog_14_method_30_code 38 = .ok (.aload_n 0, 1) := by decide +kernel
theorem d_Mod_tellLaw_39 : decode prog_14_method_30_code 39 = .ok (.getfield 206, 3) := by decide +kernel
theorem d_Mod_tellLaw_42 : decode prog_14_method_30_code 42 = .ok (.ifCond .le 4, 3) := by decide +kernel
theorem d_Mod_tellLaw_45 : decode prog_14_method_30_code 45 = .ok (.return_, 1) := by decide +kernel
theorem d_Mod_tellLaw_46 : decode prog_14_method_30_code 46 = .ok (.iinc 3 1, 3) := by decide +kernel
theorem d_Mod_tellLaw_49 : decode prog_14_method_30_code 49 = .ok (.aload_n 0, 1) := by decide +kernel
theorem d_Mod_tellLaw_50 : decode prog_14_method_30_code 50 = .ok (.invokevirtual 227, 3) := by decide +kernel
theorem d_Mod_tellLaw_53 : decode prog_14_method_30_code 53 = .ok (.aload_n 0, 1) := by decide +kernel
theorem d_Mod_tellLaw_54 : decode prog_14_method_30_code 54 = .ok (.getfield 91, 3) := by decide +kernel
theorem d_Mod_tellLaw_57 : decode prog_14_method_30_code 57 = .ok (.aload_n 0, 1) := by decide +kernel
theorem d_Mod_tellLaw_58 : decode prog_14_method_30_code 58 = .ok (.getfield 245, 3) := by decide +kernel
theorem d_Mod_tellLaw_61 : decode prog_14_method_30_code 61 = .ok (.iconst 1, 1) := by decide +kernel
theorem d_Mod_tellLaw_62 : decode prog_14_method_30_code 62 = .ok (.bastore, 1) := by decide +kernel
theorem d_Mod_tellLaw_63 : decode prog_14_method_30_code 63 = .ok (.aload_n 0, 1) := by decide +kernel
theorem d_Mod_tellLaw_64 : decode prog_14_method_30_code 64 = .ok (.getfield 95, 3) := by decide +kernel
theorem d_Mod_tellLaw_67 : decode prog_14_method_30_code 67 = .ok (.aload_n 0, 1) := by decide +kernel
theorem d_Mod_tellLaw_68 : decode prog_14_method_30_code 68 = .ok (.getfield 245, 3) := by decide +kernel
theorem d_Mod_tellLaw_71 : decode prog_14_method_30_code 71 = .ok (.aload_n 0, 1) := by decide +kernel
theorem d_Mod_tellLaw_72 : decode prog_14_method_30_code 72 = .ok (.getfield 248, 3) := by decide +kernel
theorem d_Mod_tellLaw_75 : decode prog_14_method_30_code 75 = .ok (.iastore, 1) := by decide +kernel
theorem d_Mod_tellLaw_76 : decode prog_14_method_30_code 76 = .ok (.aload_n 0, 1) := by decide +kernel
theorem d_Mod_tellLaw_77 : decode prog_14_method_30_code 77 = .ok (.invokevirtual 293, 3) := by decide +kernel
theorem d_Mod_tellLaw_80 : decode prog_14_method_30_code 80 = .ok (.aload_n 0, 1) := by decide +kernel
theorem d_Mod_tellLaw_81 : decode prog_14_method_30_code 81 = .ok (.bipush 13, 2) := by decide +kernel
theorem d_Mod_tellLaw_83 : decode prog_14_method_30_code 83 = .ok (.invokevirtual 281, 3) := by decide +kernel
theorem d_Mod_tellLaw_86 : decode prog_14_method_30_code 86 = .ok (.aload_n 0, 1) := by decide +kernel
theorem d_Mod_tellLaw_87 : decode prog_14_method_30_code 87 = .ok (.getfield 98, 3) := by decide +kernel
theorem d_Mod_tellLaw_90 : decode prog_14_method_30_code 90 = .ok (.aload_n 0, 1) := by decide +kernel
theorem d_Mod_tellLaw_91 : decode prog_14_method_30_code 91 = .ok (.getfield 245, 3) := by decide +kernel
theorem d_Mod_tellLaw_94 : decode prog_14_method_30_code 94 = .ok (.aload_n 0, 1) := by decide +kernel
theorem d_Mod_tellLaw_95 : decode prog_14_method_30_code 95 = .ok (.getfield 248, 3) := by decide +kernel
theorem d_Mod_tellLaw_98 : decode prog_14_method_30_code 98 = .ok (.iastore, 1) := by decide +kernel
theorem d_Mod_tellLaw_99 : decode prog_14_method_30_code 99 = .ok (.aload_n 0, 1) := by decide +kernel
theorem d_Mod_tellLaw_100 : decode prog_14_method_30_code 100 = .ok (.getfield 206, 3) := by decide +kernel
theorem d_Mod_tellLaw_103 : decode prog_14_method_30_code 103 = .ok (.ifCond .ne 7, 3) := by decide +kernel
theorem d_Mod_tellLaw_106 : decode prog_14_method_30_code 106 = .ok (.aload_n 0, 1) := by decide +kernel
theorem d_Mod_tellLaw_107 : decode prog_14_method_30_code 107 = .ok (.invokevirtual 293, 3) := by decide +kernel
theorem d_Mod_tellLaw_110 : decode prog_14_method_30_code 110 = .ok (.aload_n 0, 1) := by decide +kernel
theorem d_Mod_tellLaw_111 : decode prog_14_method_30_code 111 = .ok (.bipush 30, 2) := by decide +kernel
theorem d_Mod_tellLaw_113 : decode prog_14_method_30_code 113 = .ok (.invokevirtual 281, 3) := by decide +kernel
theorem d_Mod_tellLaw_116 : decode prog_14_method_30_code 116 = .ok (.aload_n 0, 1) := by decide +kernel
theorem d_Mod_tellLaw_117 : decode prog_14_method_30_code 117 = .ok (.invokevirtual 296, 3) := by decide +kernel
theorem d_Mod_tellLaw_120 : decode prog_14_method_30_code 120 = .ok (.aload_n 0, 1) := by decide +kernel
theorem d_Mod_tellLaw_121 : decode prog_14_method_30_code 121 = .ok (.bipush 31, 2) := by decide +kernel
theorem d_Mod_tellLaw_123 : decode prog_14_method_30_code 123 = .ok (.invokevirtual 281, 3) := by decide +kernel
theorem d_Mod_tellLaw_126 : decode prog_14_method_30_code 126 = .ok (.goto (-114), 3) := by decide +kernel
theorem d_Mod_tellLaw_129 : decode prog_14_method_30_code 129 = .ok (.aload_n 0, 1) := by decide +kernel
theorem d_Mod_tellLaw_130 : decode prog_14_method_30_code 130 = .ok (.getfield 91, 3) := by decide +kernel
theorem d_Mod_tellLaw_133 : decode prog_14_method_30_code 133 = .ok (.aload_n 0, 1) := by decide +kernel
theorem d_Mod_tellLaw_134 : decode prog_14_method_30_code 134 = .ok (.getfield 245, 3) := by decide +kernel
theorem d_Mod_tellLaw_137 : decode prog_14_method_30_code 137 = .ok (.iconst 0, 1) := by decide +kernel
theorem d_Mod_tellLaw_138 : decode prog_14_method_30_code 138 = .ok (.bastore, 1) := by decide +kernel
theorem d_Mod_tellLaw_139 : decode prog_14_method_30_code 139 = .ok (.aload_n 0, 1) := by decide +kernel
theorem d_Mod_tellLaw_140 : decode prog_14_method_30_code 140 = .ok (.invokevirtual 296, 3) := by decide +kernel
theorem d_Mod_tellLaw_143 : decode prog_14_method_30_code 143 = .ok (.aload_n 0, 1) := by decide +kernel
theorem d_Mod_tellLaw_144 : decode prog_14_method_30_code 144 = .ok (.iconst 4, 1) := by decide +kernel
theorem d_Mod_tellLaw_145 : decode prog_14_method_30_code 145 = .ok (.invokevirtual 281, 3) := by decide +kernel
theorem d_Mod_tellLaw_148 : decode prog_14_method_30_code 148 = .ok (.aload_n 0, 1) := by decide +kernel
theorem d_Mod_tellLaw_149 : decode prog_14_method_30_code 149 = .ok (.getfield 206, 3) := by decide +kernel
theorem d_Mod_tellLaw_152 : decode prog_14_method_30_code 152 = .ok (.ifCond .le 4, 3) := by decide +kernel
theorem d_Mod_tellLaw_155 : decode prog_14_method_30_code 155 = .ok (.return_, 1) := by decide +kernel
theorem d_Mod_tellLaw_156 : decode prog_14_method_30_code 156 = .ok (.aload_n 0, 1) := by decide +kernel
theorem d_Mod_tellLaw_157 : decode prog_14_method_30_code 157 = .ok (.getfield 85, 3) := by decide +kernel
theorem d_Mod_tellLaw_160 : decode prog_14_method_30_code 160 = .ok (.iconst 4, 1) := by decide +kernel
theorem d_Mod_tellLaw_161 : decode prog_14_method_30_code 161 = .ok (.aload_n 0, 1) := by decide +kernel
theorem d_Mod_tellLaw_162 : decode prog_14_method_30_code 162 = .ok (.getfield 239, 3) := by decide +kernel
theorem d_Mod_tellLaw_165 : decode prog_14_method_30_code 165 = .ok (.imul, 1) := by decide +kernel
theorem d_Mod_tellLaw_166 : decode prog_14_method_30_code 166 = .ok (.iload_n 1, 1) := by decide +kernel
theorem d_Mod_tellLaw_167 : decode prog_14_method_30_code 167 = .ok (.iadd, 1) := by decide +kernel
theorem d_Mod_tellLaw_168 : decode prog_14_method_30_code 168 = .ok (.iload_n 2, 1) := by decide +kernel
theorem d_Mod_tellLaw_169 : decode prog_14_method_30_code 169 = .ok (.iastore, 1) := by decide +kernel
theorem d_Mod_tellLaw_170 : decode prog_14_method_30_code 170 = .ok (.aload_n 0, 1) := by decide +kernel
theorem d_Mod_tellLaw_171 : decode prog_14_method_30_code 171 = .ok (.getfield 88, 3) := by decide +kernel
theorem d_Mod_tellLaw_174 : decode prog_14_method_30_code 174 = .ok (.iconst 4, 1) := by decide +kernel
theorem d_Mod_tellLaw_175 : decode prog_14_method_30_code 175 = .ok (.aload_n 0, 1) := by decide +kernel
theorem d_Mod_tellLaw_176 : decode prog_14_method_30_code 176 = .ok (.getfield 239, 3) := by decide +kernel
theorem d_Mod_tellLaw_179 : decode prog_14_method_30_code 179 = .ok (.imul, 1) := by decide +kernel
theorem d_Mod_tellLaw_180 : decode prog_14_method_30_code 180 = .ok (.iload_n 1, 1) := by decide +kernel
theorem d_Mod_tellLaw_181 : decode prog_14_method_30_code 181 = .ok (.iadd, 1) := by decide +kernel
theorem d_Mod_tellLaw_182 : decode prog_14_method_30_code 182 = .ok (.aload_n 0, 1) := by decide +kernel
theorem d_Mod_tellLaw_183 : decode prog_14_method_30_code 183 = .ok (.getfield 245, 3) := by decide +kernel
theorem d_Mod_tellLaw_186 : decode prog_14_method_30_code 186 = .ok (.iastore, 1) := by decide +kernel
theorem d_Mod_tellLaw_187 : decode prog_14_method_30_code 187 = .ok (.return_, 1) := by decide +kernel
theorem d_Mod_term_0 : decode prog_14_method_31_code 0 = .ok (.aload_n 0, 1) := by decide +kernel
theorem d_Mod_term_1 : decode prog_14_method_31_code 1 = .ok (.getfield 101, 3) := by decide +kernel
theorem d_Mod_term_4 : decode prog_14_method_31_code 4 = .ok (.aload_n 0, 1) := by decide +kernel
theorem d_Mod_term_5 : decode prog_14_method_31_code 5 = .ok (.getfield 245, 3) := by decide +kernel
theorem d_Mod_term_8 : decode prog_14_method_31_code 8 = .ok (.aload_n 0, 1) := by decide +kernel
theorem d_Mod_term_9 : decode prog_14_method_31_code 9 = .ok (.getfield 248, 3) := by decide +kernel
theorem d_Mod_term_12 : decode prog_14_method_31_code 12 = .ok (.iastore, 1) := by decide +kernel
theorem d_Mod_term_13 : decode prog_14_method_31_code 13 = .ok (.aload_n 0, 1) := by decide +kernel
theorem d_Mod_term_14 : decode prog_14_method_31_code 14 = .ok (.getfield 206, 3) := by decide +kernel
theorem d_Mod_term_17 : decode prog_14_method_31_code 17 = .ok (.ifCond .ne 7, 3) := by decide +kernel
theorem d_Mod_term_20 : decode prog_14_method_31_code 20 = .ok (.aload_n 0, 1) := by decide +kernel
theorem d_Mod_term_21 : decode prog_14_method_31_code 21 = .ok (.invokevirtual 293, 3) := by decide +kernel
theorem d_Mod_term_24 : decode prog_14_method_31_code 24 = .ok (.aload_n 0, 1) := by decide +kernel
theorem d_Mod_term_25 : decode prog_14_method_31_code 25 = .ok (.getfield 104, 3) := by decide +kernel
theorem d_Mod_term_28 : decode prog_14_method_31_code 28 = .ok (.aload_n 0, 1) := by decide +kernel
theorem d_Mod_term_29 : decode prog_14_method_31_code 29 = .ok (.getfield 245, 3) := by decide +kernel
theorem d_Mod_term_32 : decode prog_14_method_31_code 32 = .ok (.aload_n 0, 1) := by decide +kernel
theorem d_Mod_term_33 : decode prog_14_method_31_code 33 = .ok (.getfield 248, 3) := by decide +kernel
theorem d_Mod_term_36 : decode prog_14_method_31_code 36 = .ok (.iastore, 1) := by decide +kernel
theorem d_Mod_term_37 : decode prog_14_method_31_code 37 = .ok (.aload_n 0, 1) := by decide +kernel
theorem d_Mod_term_38 : decode prog_14_method_31_code 38 = .ok (.dup, 1) := by decide +kernel
theorem d_Mod_term_39 : decode prog_14_method_31_code 39 = .ok (.getfield 245, 3) := by decide +kernel
theorem d_Mod_term_42 : decode prog_14_method_31_code 42 = .ok (.iconst 1, 1) := by decide +kernel
theorem d_Mod_term_43 : decode prog_14_method_31_code 43 = .ok (.iadd, 1) := by decide +kernel
theorem d_Mod_term_44 : decode prog_14_method_31_code 44 = .ok (.putfield 245, 3) := by decide +kernel
theorem d_Mod_term_47 : decode prog_14_method_31_code 47 = .ok (.return_, 1) := by decide +kernel
theorem d_Mod_emit_0 : decode prog_14_method_32_code 0 = .ok (.aload_n 0, 1) := by decide +kernel
theorem d_Mod_emit_1 : decode prog_14_method_32_code 1 = .ok (.getfield 107, 3) := by decide +kernel
theorem d_Mod_emit_4 : decode prog_14_method_32_code 4 = .ok (.aload_n 0, 1) := by decide +kernel
theorem d_Mod_emit_5 : decode prog_14_method_32_code 5 = .ok (.getfield 248, 3) := by decide +kernel
theorem d_Mod_emit_8 : decode prog_14_method_32_code 8 = .ok (.iload_n 1, 1) := by decide +kernel
theorem d_Mod_emit_9 : decode prog_14_method_32_code 9 = .ok (.iastore, 1) := by decide +kernel
theorem d_Mod_emit_10 : decode prog_14_method_32_code 10 = .ok (.aload_n 0, 1) := by decide +kernel
theorem d_Mod_emit_11 : decode prog_14_method_32_code 11 = .ok (.getfield 110, 3) := by decide +kernel
theorem d_Mod_emit_14 : decode prog_14_method_32_code 14 = .ok (.aload_n 0, 1) := by decide +kernel
theorem d_Mod_emit_15 : decode prog_14_method_32_code 15 = .ok (.getfield 248, 3) := by decide +kernel
theorem d_Mod_emit_18 : decode prog_14_method_32_code 18 = .ok (.iload_n 2, 1) := by decide +kernel
theorem d_Mod_emit_19 : decode prog_14_method_32_code 19 = .ok (.iastore, 1) := by decide +kernel
theorem d_Mod_emit_20 : decode prog_14_method_32_code 20 = .ok (.aload_n 0, 1) := by decide +kernel
theorem d_Mod_emit_21 : decode prog_14_method_32_code 21 = .ok (.dup, 1) := by decide +kernel
theorem d_Mod_emit_22 : decode prog_14_method_32_code 22 = .ok (.getfield 248, 3) := by decide +kernel
theorem d_Mod_emit_25 : decode prog_14_method_32_code 25 = .ok (.iconst 1, 1) := by decide +kernel
theorem d_Mod_emit_26 : decode prog_14_method_32_code 26 = .ok (.iadd, 1) := by decide +kernel
theorem d_Mod_emit_27 : decode prog_14_method_32_code 27 = .ok (.putfield 248, 3) := by decide +kernel
theorem d_Mod_emit_30 : decode prog_14_method_32_code 30 = .ok (.return_, 1) := by decide +kernel
theorem d_Mod_comesOut_0 : decode prog_14_method_33_code 0 = .ok (.aload_n 0, 1) := by decide +kernel
theorem d_Mod_comesOut_1 : decode prog_14_method_33_code 1 = .ok (.getfield 299, 3) := by decide +kernel
theorem d_Mod_comesOut_4 : decode prog_14_method_33_code 4 = .ok (.ifCond .le 87, 3) := by decide +kernel
theorem d_Mod_comesOut_7 : decode prog_14_method_33_code 7 = .ok (.aload_n 0, 1) := by decide +kernel
theorem d_Mod_comesOut_8 : decode prog_14_method_33_code 8 = .ok (.getfield 113, 3) := by decide +kernel
theorem d_Mod_comesOut_11 : decode prog_14_method_33_code 11 = .ok (.aload_n 0, 1) := by decide +kernel
theorem d_Mod_comesOut_12 : decode prog_14_method_33_code 12 = .ok (.getfield 299, 3) := by decide +kernel
theorem d_Mod_comesOut_15 : decode prog_14_method_33_code 15 = .ok (.iconst 1, 1) := by decide +kernel
theorem d_Mod_comesOut_16 : decode prog_14_method_33_code 16 = .ok (.isub, 1) := by decide +kernel
theorem d_Mod_comesOut_17 : decode prog_14_method_33_code 17 = .ok (.iaload, 1) := by decide +kernel
theorem d_Mod_comesOut_18 : decode prog_14_method_33_code 18 = .ok (.istore_n 2, 1) := by decide +kernel
theorem d_Mod_comesOut_19 : decode prog_14_method_33_code 19 = .ok (.iload_n 2, 1) := by decide +kernel
theorem d_Mod_comesOut_20 : decode prog_14_method_33_code 20 = .ok (.bipush 6, 2) := by decide +kernel
theorem d_Mod_comesOut_22 : decode prog_14_method_33_code 22 = .ok (.if_icmp .eq 19, 3) := by decide +kernel
theorem d_Mod_comesOut_25 : decode prog_14_method_33_code 25 = .ok (.iload_n 1, 1) := by decide +kernel
theorem d_Mod_comesOut_26 : decode prog_14_method_33_code 26 = .ok (.ifCond .eq 16, 3) := by decide +kernel
theorem d_Mod_comesOut_29 : decode prog_14_method_33_code 29 = .ok (.iload_n 2, 1) := by decide +kernel
theorem d_Mod_comesOut_30 : decode prog_14_method_33_code 30 = .ok (.bipush 8, 2) := by decide +kernel
theorem d_Mod_comesOut_32 : decode prog_14_method_33_code 32 = .ok (.if_icmp .eq 9, 3) := by decide +kernel
theorem d_Mod_comesOut_35 : decode prog_14_method_33_code 35 = .ok (.iload_n 2, 1) := by decide +kernel
theorem d_Mod_comesOut_36 : decode prog_14_method_33_code 36 = .ok (.bipush 9, 2) := by decide +kernel
theorem d_Mod_comesOut_38 : decode prog_14_method_33_code 38 = .ok (.if_icmp .ne 4, 3) := by decide +kernel
theorem d_Mod_comesOut_41 : decode prog_14_method_33_code 41 = .ok (.return_, 1) := by decide +kernel
theorem d_Mod_comesOut_42 : decode prog_14_method_33_code 42 = .ok (.aload_n 0, 1) := by decide +kernel
theorem d_Mod_comesOut_43 : decode prog_14_method_33_code 43 = .ok (.dup, 1) := by decide +kernel
theorem d_Mod_comesOut_44 : decode prog_14_method_33_code 44 = .ok (.getfield 299, 3) := by decide +kernel
theorem d_Mod_comesOut_47 : decode prog_14_method_33_code 47 = .ok (.iconst 1, 1) := by decide +kernel
theorem d_Mod_comesOut_48 : decode prog_14_method_33_code 48 = .ok (.isub, 1) := by decide +kernel
theorem d_Mod_comesOut_49 : decode prog_14_method_33_code 49 = .ok (.putfield 299, 3) := by decide +kernel
theorem d_Mod_comesOut_52 : decode prog_14_method_33_code 52 = .ok (.aload_n 0, 1) := by decide +kernel
theorem d_Mod_comesOut_53 : decode prog_14_method_33_code 53 = .ok (.iload_n 2, 1) := by decide +kernel
theorem d_Mod_comesOut_54 : decode prog_14_method_33_code 54 = .ok (.bipush 8, 2) := by decide +kernel
theorem d_Mod_comesOut_56 : decode prog_14_method_33_code 56 = .ok (.if_icmp .ne 7, 3) := by decide +kernel
theorem d_Mod_comesOut_59 : decode prog_14_method_33_code 59 = .ok (.iconst 2, 1) := by decide +kernel
theorem d_Mod_comesOut_60 : decode prog_14_method_33_code 60 = .ok (.goto 24, 3) := by decide +kernel
theorem d_Mod_comesOut_63 : decode prog_14_method_33_code 63 = .ok (.iload_n 2, 1) := by decide +kernel
theorem d_Mod_comesOut_64 : decode prog_14_method_33_code 64 = .ok (.bipush 9, 2) := by decide +kernel
theorem d_Mod_comesOut_66 : decode prog_14_method_33_code 66 = .ok (.if_icmp .ne 7, 3) := by decide +kernel
theorem d_Mod_comesOut_69 : decode prog_14_method_33_code 69 = .ok (.iconst 3, 1) := by decide +kernel
theorem d_Mod_comesOut_70 : decode prog_14_method_33_code 70 = .ok (.goto 14, 3) := by decide +kernel
theorem d_Mod_comesOut_73 : decode prog_14_method_33_code 73 = .ok (.iload_n 2, 1) := by decide +kernel
theorem d_Mod_comesOut_74 : decode prog_14_method_33_code 74 = .ok (.bipush 10, 2) := by decide +kernel
theorem d_Mod_comesOut_76 : decode prog_14_method_33_code 76 = .ok (.if_icmp .ne 7, 3) := by decide +kernel
theorem d_Mod_comesOut_79 : decode prog_14_method_33_code 79 = .ok (.iconst 4, 1) := by decide +kernel
theorem d_Mod_comesOut_80 : decode prog_14_method_33_code 80 = .ok (.goto 4, 3) := by decide +kernel
theorem d_Mod_comesOut_83 : decode prog_14_method_33_code 83 = .ok (.iconst 5, 1) := by decide +kernel
theorem d_Mod_comesOut_84 : decode prog_14_method_33_code 84 = .ok (.iconst 0, 1) := by decide +kernel
theorem d_Mod_comesOut_85 : decode prog_14_method_33_code 85 = .ok (.invokevirtual 302, 3) := by decide +kernel
theorem d_Mod_comesOut_88 : decode prog_14_method_33_code 88 = .ok (.goto (-88), 3) := by decide +kernel
theorem d_Mod_comesOut_91 : decode prog_14_method_33_code 91 = .ok (.return_, 1) := by decide +kernel
theorem d_Mod_expression_0 : decode prog_14_method_34_code 0 = .ok (.aload_n 0, 1) := by decide +kernel
theorem d_Mod_expression_1 : decode prog_14_method_34_code 1 = .ok (.iconst 0, 1) := by decide +kernel
theorem d_Mod_expression_2 : decode prog_14_method_34_code 2 = .ok (.putfield 299, 3) := by decide +kernel
theorem d_Mod_expression_5 : decode prog_14_method_34_code 5 = .ok (.aload_n 0, 1) := by decide +kernel
theorem d_Mod_expression_6 : decode prog_14_method_34_code 6 = .ok (.getfield 233, 3) := by decide +kernel
theorem d_Mod_expression_9 : decode prog_14_method_34_code 9 = .ok (.istore_n 1, 1) := by decide +kernel
theorem d_Mod_expression_10 : decode prog_14_method_34_code 10 = .ok (.iconst 1, 1) := by decide +kernel
theorem d_Mod_expression_11 : decode prog_14_method_34_code 11 = .ok (.istore_n 2, 1) := by decide +kernel
theorem d_Mod_expression_12 : decode prog_14_method_34_code 12 = .ok (.iload_n 2, 1) := by decide +kernel
theorem d_Mod_expression_13 : decode prog_14_method_34_code 13 = .ok (.ifCond .eq 259, 3) := by decide +kernel
theorem d_Mod_expression_16 : decode prog_14_method_34_code 16 = .ok (.aload_n 0, 1) := by decide +kernel
theorem d_Mod_expression_17 : decode prog_14_method_34_code 17 = .ok (.getfield 206, 3) := by decide +kernel
theorem d_Mod_expression_20 : decode prog_14_method_34_code 20 = .ok (.ifCond .ne 252, 3) := by decide +kernel
theorem d_Mod_expression_23 : decode prog_14_method_34_code 23 = .ok (.aload_n 0, 1) := by decide +kernel
theorem d_Mod_expression_24 : decode prog_14_method_34_code 24 = .ok (.bipush 6, 2) := by decide +kernel
theorem d_Mod_expression_26 : decode prog_14_method_34_code 26 = .ok (.invokevirtual 224, 3) := by decide +kernel
theorem d_Mod_expression_29 : decode prog_14_method_34_code 29 = .ok (.ifCond .eq 55, 3) := by decide +kernel
theorem d_Mod_expression_32 : decode prog_14_method_34_code 32 = .ok (.aload_n 0, 1) := by decide +kernel
theorem d_Mod_expression_33 : decode prog_14_method_34_code 33 = .ok (.getfield 233, 3) := by decide +kernel
theorem d_Mod_expression_36 : decode prog_14_method_34_code 36 = .ok (.bipush 6, 2) := by decide +kernel
theorem d_Mod_expression_38 : decode prog_14_method_34_code 38 = .ok (.if_icmp .ne 8, 3) := by decide +kernel
theorem d_Mod_expression_41 : decode prog_14_method_34_code 41 = .ok (.aload_n 0, 1) := by decide +kernel
theorem d_Mod_expression_42 : decode prog_14_method_34_code 42 = .ok (.iconst 2, 1) := by decide +kernel
theorem d_Mod_expression_43 : decode prog_14_method_34_code 43 = .ok (.invokevirtual 221, 3) := by decide +kernel
theorem d_Mod_expression_46 : decode prog_14_method_34_code 46 = .ok (.aload_n 0, 1) := by decide +kernel
theorem d_Mod_expression_47 : decode prog_14_method_34_code 47 = .ok (.dup, 1) := by decide +kernel
theorem d_Mod_expression_48 : decode prog_14_method_34_code 48 = .ok (.getfield 233, 3) := by decide +kernel
theorem d_Mod_expression_51 : decode prog_14_method_34_code 51 = .ok (.iconst 1, 1) := by decide +kernel
theorem d_Mod_expression_52 : decode prog_14_method_34_code 52 = .ok (.iadd, 1) := by decide +kernel
theorem d_Mod_expression_53 : decode prog_14_method_34_code 53 = .ok (.putfield 233, 3) := by decide +kernel
theorem d_Mod_expression_56 : decode prog_14_method_34_code 56 = .ok (.aload_n 0, 1) := by decide +kernel
theorem d_Mod_expression_57 : decode prog_14_method_34_code 57 = .ok (.invokevirtual 227, 3) := by decide +kernel
theorem d_Mod_expression_60 : decode prog_14_method_34_code 60 = .ok (.aload_n 0, 1) := by decide +kernel
theorem d_Mod_expression_61 : decode prog_14_method_34_code 61 = .ok (.getfield 113, 3) := by decide +kernel
theorem d_Mod_expression_64 : decode prog_14_method_34_code 64 = .ok (.aload_n 0, 1) := by decide +kernel
theorem d_Mod_expression_65 : decode prog_14_method_34_code 65 = .ok (.getfield 299, 3) := by decide +kernel
theorem d_Mod_expression_68 : decode prog_14_method_34_code 68 = .ok (.bipush 6, 2) := by decide +kernel
theorem d_Mod_expression_70 : decode prog_14_method_34_code 70 = .ok (.iastore, 1) := by decide +kernel
theorem d_Mod_expression_71 : decode prog_14_method_34_code 71 = .ok (.aload_n 0, 1) := by decide +kernel
theorem d_Mod_expression_72 : decode prog_14_method_34_code 72 = .ok (.dup, 1) := by decide +kernel
theorem d_Mod_expression_73 : decode prog_14_method_34_code 73 = .ok (.getfield 299, 3) := by decide +kernel
theorem d_Mod_expression_76 : decode prog_14_method_34_code 76 = .ok (.iconst 1, 1) := by decide +kernel
theorem d_Mod_expression_77 : decode prog_14_method_34_code 77 = .ok (.iadd, 1) := by decide +kernel
theorem d_Mod_expression_78 : decode prog_14_method_34_code 78 = .ok (.putfield 299, 3) := by decide +kernel
theorem d_Mod_expression_81 : decode prog_14_method_34_code 81 = .ok (.goto (-58), 3) := by decide +kernel
theorem d_Mod_expression_84 : decode prog_14_method_34_code 84 = .ok (.aload_n 0, 1) := by decide +kernel
theorem d_Mod_expression_85 : decode prog_14_method_34_code 85 = .ok (.invokevirtual 305, 3) := by decide +kernel
theorem d_Mod_expression_88 : decode prog_14_method_34_code 88 = .ok (.aload_n 0, 1) := by decide +kernel
theorem d_Mod_expression_89 : decode prog_14_method_34_code 89 = .ok (.getfield 206, 3) := by decide +kernel
theorem d_Mod_expression_92 : decode prog_14_method_34_code 92 = .ok (.ifCond .le 4, 3) := by decide +kernel
theorem d_Mod_expression_95 : decode prog_14_method_34_code 95 = .ok (.return_, 1) := by decide +kernel
theorem d_Mod_expression_96 : decode prog_14_method_34_code 96 = .ok (.aload_n 0, 1) := by decide +kernel
theorem d_Mod_expression_97 : decode prog_14_method_34_code 97 = .ok (.bipush 7, 2) := by decide +kernel
theorem d_Mod_expression_99 : decode prog_14_method_34_code 99 = .ok (.invokevirtual 224, 3) := by decide +kernel
theorem d_Mod_expression_102 : decode prog_14_method_34_code 102 = .ok (.ifCond .eq 43, 3) := by decide +kernel
theorem d_Mod_expression_105 : decode prog_14_method_34_code 105 = .ok (.aload_n 0, 1) := by decide +kernel
theorem d_Mod_expression_106 : decode prog_14_method_34_code 106 = .ok (.getfield 233, 3) := by decide +kernel
theorem d_Mod_expression_109 : decode prog_14_method_34_code 109 = .ok (.iload_n 1, 1) := by decide +kernel
theorem d_Mod_expression_110 : decode prog_14_method_34_code 110 = .ok (.if_icmp .le 35, 3) := by decide +kernel
theorem d_Mod_expression_113 : decode prog_14_method_34_code 113 = .ok (.aload_n 0, 1) := by decide +kernel
theorem d_Mod_expression_114 : decode prog_14_method_34_code 114 = .ok (.iconst 0, 1) := by decide +kernel
theorem d_Mod_expression_115 : decode prog_14_method_34_code 115 = .ok (.invokevirtual 308, 3) := by decide +kernel
theorem d_Mod_expression_118 : decode prog_14_method_34_code 118 = .ok (.aload_n 0, 1) := by decide +kernel
theorem d_Mod_expression_119 : decode prog_14_method_34_code 119 = .ok (.dup, 1) := by decide +kernel
theorem d_Mod_expression_120 : decode prog_14_method_34_code 120 = .ok (.getfield 299, 3) := by decide +kernel
theorem d_Mod_expression_123 : decode prog_14_method_34_code 123 = .ok (.iconst 1, 1) := by decide +kernel
theorem d_Mod_expression_124 : decode prog_14_method_34_code 124 = .ok (.isub, 1) := by decide +kernel
theorem d_Mod_expression_125 : decode prog_14_method_34_code 125 = .ok (.putfield 299, 3) := by decide +kernel
theorem d_Mod_expression_128 : decode prog_14_method_34_code 128 = .ok (.aload_n 0, 1) := by decide +kernel
theorem d_Mod_expression_129 : decode prog_14_method_34_code 129 = .ok (.dup, 1) := by decide +kernel
theorem d_Mod_expression_130 : decode prog_14_method_34_code 130 = .ok (.getfield 233, 3) := by decide +kernel
theorem d_Mod_expression_133 : decode prog_14_method_34_code 133 = .ok (.iconst 1, 1) := by decide +kernel
theorem d_Mod_expression_134 : decode prog_14_method_34_code 134 = .ok (.isub, 1) := by decide +kernel
theorem d_Mod_expression_135 : decode prog_14_method_34_code 135 = .ok (.putfield 233, 3) := by decide +kernel
theorem d_Mod_expression_138 : decode prog_14_method_34_code 138 = .ok (.aload_n 0, 1) := by decide +kernel
theorem d_Mod_expression_139 : decode prog_14_method_34_code 139 = .ok (.invokevirtual 227, 3) := by decide +kernel
theorem d_Mod_expression_142 : decode prog_14_method_34_code 142 = .ok (.goto (-46), 3) := by decide +kernel
theorem d_Mod_expression_145 : decode prog_14_method_34_code 145 = .ok (.aload_n 0, 1) := by decide +kernel
theorem d_Mod_expression_146 : decode prog_14_method_34_code 146 = .ok (.bipush 8, 2) := by decide +kernel
theorem d_Mod_expression_148 : decode prog_14_method_34_code 148 = .ok (.invokevirtual 224, 3) := by decide +kernel
theorem d_Mod_expression_151 : decode prog_14_method_34_code 151 = .ok (.ifCond .ne 30, 3) := by decide +kernel
theorem d_Mod_expression_154 : decode prog_14_method_34_code 154 = .ok (.aload_n 0, 1) := by decide +kernel
theorem d_Mod_expression_155 : decode prog_14_method_34_code 155 = .ok (.bipush 9, 2) := by decide +kernel
theorem d_Mod_expression_157 : decode prog_14_method_34_code 157 = .ok (.invokevirtual 224, 3) := by decide +kernel
theorem d_Mod_expression_160 : decode prog_14_method_34_code 160 = .ok (.ifCond .ne 21, 3) := by decide +kernel
theorem d_Mod_expression_163 : decode prog_14_method_34_code 163 = .ok (.aload_n 0, 1) := by decide +kernel
theorem d_Mod_expression_164 : decode prog_14_method_34_code 164 = .ok (.bipush 10, 2) := by decide +kernel
theorem d_Mod_expression_166 : decode prog_14_method_34_code 166 = .ok (.invokevirtual 224, 3) := by decide +kernel
theorem d_Mod_expression_169 : decode prog_14_method_34_code 169 = .ok (.ifCond .ne 12, 3) := by decide +kernel
theorem d_Mod_expression_172 : decode prog_14_method_34_code 172 = .ok (.aload_n 0, 1) := by decide +kernel
theorem d_Mod_expression_173 : decode prog_14_method_34_code 173 = .ok (.bipush 15, 2) := by decide +kernel
theorem d_Mod_expression_175 : decode prog_14_method_34_code 175 = .ok (.invokevirtual 224, 3) := by decide +kernel
theorem d_Mod_expression_178 : decode prog_14_method_34_code 178 = .ok (.ifCond .eq 7, 3) := by decide +kernel
theorem d_Mod_expression_181 : decode prog_14_method_34_code 181 = .ok (.iconst 1, 1) := by decide +kernel
theorem d_Mod_expression_182 : decode prog_14_method_34_code 182 = .ok (.goto 4, 3) := by decide +kernel
theorem d_Mod_expression_185 : decode prog_14_method_34_code 185 = .ok (.iconst 0, 1) := by decide +kernel
theorem d_Mod_expression_186 : decode prog_14_method_34_code 186 = .ok (.istore_n 2, 1) := by decide +kernel
theorem d_Mod_expression_187 : decode prog_14_method_34_code 187 = .ok (.iload_n 2, 1) := by decide +kernel
theorem d_Mod_expression_188 : decode prog_14_method_34_code 188 = .ok (.ifCond .ne 22, 3) := by decide +kernel
theorem d_Mod_expression_191 : decode prog_14_method_34_code 191 = .ok (.aload_n 0, 1) := by decide +kernel
theorem d_Mod_expression_192 : decode prog_14_method_34_code 192 = .ok (.getfield 233, 3) := by decide +kernel
theorem d_Mod_expression_195 : decode prog_14_method_34_code 195 = .ok (.iload_n 1, 1) := by decide +kernel
theorem d_Mod_expression_196 : decode prog_14_method_34_code 196 = .ok (.if_icmp .le 8, 3) := by decide +kernel
theorem d_Mod_expression_199 : decode prog_14_method_34_code 199 = .ok (.aload_n 0, 1) := by decide +kernel
theorem d_Mod_expression_200 : decode prog_14_method_34_code 200 = .ok (.iconst 1, 1) := by decide +kernel
theorem d_Mod_expression_201 : decode prog_14_method_34_code 201 = .ok (.invokevirtual 221, 3) := by decide +kernel
theorem d_Mod_expression_204 : decode prog_14_method_34_code 204 = .ok (.aload_n 0, 1) := by decide +kernel
theorem d_Mod_expression_205 : decode prog_14_method_34_code 205 = .ok (.iconst 0, 1) := by decide +kernel
theorem d_Mod_expression_206 : decode prog_14_method_34_code 206 = .ok (.invokevirtual 308, 3) := by decide +kernel
theorem d_Mod_expression_209 : decode prog_14_method_34_code 209 = .ok (.return_, 1) := by decide +kernel
theorem d_Mod_expression_210 : decode prog_14_method_34_code 210 = .ok (.aload_n 0, 1) := by decide +kernel
theorem d_Mod_expression_211 : decode prog_14_method_34_code 211 = .ok (.aload_n 0, 1) := by decide +kernel
theorem d_Mod_expression_212 : decode prog_14_method_34_code 212 = .ok (.bipush 10, 2) := by decide +kernel
theorem d_Mod_expression_214 : decode prog_14_method_34_code 214 = .ok (.invokevirtual 224, 3) := by decide +kernel
theorem d_Mod_expression_217 : decode prog_14_method_34_code 217 = .ok (.ifCond .ne 12, 3) := by decide +kernel
theorem d_Mod_expression_220 : decode prog_14_method_34_code 220 = .ok (.aload_n 0, 1) := by decide +kernel
theorem d_Mod_expression_221 : decode prog_14_method_34_code 221 = .ok (.bipush 15, 2) := by decide +kernel
theorem d_Mod_expression_223 : decode prog_14_method_34_code 223 = .ok (.invokevirtual 224, 3) := by decide +kernel
theorem d_Mod_expression_226 : decode prog_14_method_34_code 226 = .ok (.ifCond .eq 7, 3) := by decide +kernel
theorem d_Mod_expression_229 : decode prog_14_method_34_code 229 = .ok (.iconst 1, 1) := by decide +kernel
theorem d_Mod_expression_230 : decode prog_14_method_34_code 230 = .ok (.goto 4, 3) := by decide +kernel
theorem d_Mod_expression_233 : decode prog_14_method_34_code 233 = .ok (.iconst 0, 1) := by decide +kernel
theorem d_Mod_expression_234 : decode prog_14_method_34_code 234 = .ok (.invokevirtual 308, 3) := by decide +kernel
theorem d_Mod_expression_237 : decode prog_14_method_34_code 237 = .ok (.aload_n 0, 1) := by decide +kernel
theorem d_Mod_expression_238 : decode prog_14_method_34_code 238 = .ok (.getfield 113, 3) := by decide +kernel
theorem d_Mod_expression_241 : decode prog_14_method_34_code 241 = .ok (.aload_n 0, 1) := by decide +kernel
theorem d_Mod_expression_242 : decode prog_14_method_34_code 242 = .ok (.getfield 299, 3) := by decide +kernel
theorem d_Mod_expression_245 : decode prog_14_method_34_code 245 = .ok (.aload_n 0, 1) := by decide +kernel
theorem d_Mod_expression_246 : decode prog_14_method_34_code 246 = .ok (.getfield 20, 3) := by decide +kernel
theorem d_Mod_expression_249 : decode prog_14_method_34_code 249 = .ok (.aload_n 0, 1) := by decide +kernel
theorem d_Mod_expression_250 : decode prog_14_method_34_code 250 = .ok (.getfield 209, 3) := by decide +kernel
theorem d_Mod_expression_253 : decode prog_14_method_34_code 253 = .ok (.iaload, 1) := by decide +kernel
theorem d_Mod_expression_254 : decode prog_14_method_34_code 254 = .ok (.iastore, 1) := by decide +kernel
theorem d_Mod_expression_255 : decode prog_14_method_34_code 255 = .ok (.aload_n 0, 1) := by decide +kernel
theorem d_Mod_expression_256 : decode prog_14_method_34_code 256 = .ok (.dup, 1) := by decide +kernel
theorem d_Mod_expression_257 : decode prog_14_method_34_code 257 = .ok (.getfield 299, 3) := by decide +kernel
theorem d_Mod_expression_260 : decode prog_14_method_34_code 260 = .ok (.iconst 1, 1) := by decide +kernel
theorem d_Mod_expression_261 : decode prog_14_method_34_code 261 = .ok (.iadd, 1) := by decide +kernel
theorem d_Mod_expression_262 : decode prog_14_method_34_code 262 = .ok (.putfield 299, 3) := by decide +kernel
theorem d_Mod_expression_265 : decode prog_14_method_34_code 265 = .ok (.aload_n 0, 1) := by decide +kernel
theorem d_Mod_expression_266 : decode prog_14_method_34_code 266 = .ok (.invokevirtual 227, 3) := by decide +kernel
theorem d_Mod_expression_269 : decode prog_14_method_34_code 269 = .ok (.goto (-257), 3) := by decide +kernel
theorem d_Mod_expression_272 : decode prog_14_method_34_code 272 = .ok (.return_, 1) := by decide +kernel
theorem d_Mod_unit_0 : decode prog_14_method_35_code 0 = .ok (.aload_n 0, 1) := by decide +kernel
theorem d_Mod_unit_1 : decode prog_14_method_35_code 1 = .ok (.iconst 2, 1) := by decide +kernel
theorem d_Mod_unit_2 : decode prog_14_method_35_code 2 = .ok (.invokevirtual 224, 3) := by decide +kernel
theorem d_Mod_unit_5 : decode prog_14_method_35_code 5 = .ok (.ifCond .eq 24, 3) := by decide +kernel
theorem d_Mod_unit_8 : decode prog_14_method_35_code 8 = .ok (.aload_n 0, 1) := by decide +kernel
theorem d_Mod_unit_9 : decode prog_14_method_35_code 9 = .ok (.iconst 0, 1) := by decide +kernel
theorem d_Mod_unit_10 : decode prog_14_method_35_code 10 = .ok (.aload_n 0, 1) := by decide +kernel
theorem d_Mod_unit_11 : decode prog_14_method_35_code 11 = .ok (.getfield 27, 3) := by decide +kernel
theorem d_Mod_unit_14 : decode prog_14_method_35_code 14 = .ok (.aload_n 0, 1) := by decide +kernel
theorem d_Mod_unit_15 : decode prog_14_method_35_code 15 = .ok (.getfield 209, 3) := by decide +kernel
theorem d_Mod_unit_18 : decode prog_14_method_35_code 18 = .ok (.iaload, 1) := by decide +kernel
theorem d_Mod_unit_19 : decode prog_14_method_35_code 19 = .ok (.invokevirtual 302, 3) := by decide +kernel
theorem d_Mod_unit_22 : decode prog_14_method_35_code 22 = .ok (.aload_n 0, 1) := by decide +kernel
theorem d_Mod_unit_23 : decode prog_14_method_35_code 23 = .ok (.invokevirtual 227, 3) := by decide +kernel
theorem d_Mod_unit_26 : decode prog_14_method_35_code 26 = .ok (.goto 67, 3) := by decide +kernel
theorem d_Mod_unit_29 : decode prog_14_method_35_code 29 = .ok (.aload_n 0, 1) := by decide +kernel
theorem d_Mod_unit_30 : decode prog_14_method_35_code 30 = .ok (.getfield 206, 3) := by decide +kernel
theorem d_Mod_unit_33 : decode prog_14_method_35_code 33 = .ok (.ifCond .ne 55, 3) := by decide +kernel
theorem d_Mod_unit_36 : decode prog_14_method_35_code 36 = .ok (.aload_n 0, 1) := by decide +kernel
theorem d_Mod_unit_37 : decode prog_14_method_35_code 37 = .ok (.getfield 20, 3) := by decide +kernel
theorem d_Mod_unit_40 : decode prog_14_method_35_code 40 = .ok (.aload_n 0, 1) := by decide +kernel
theorem d_Mod_unit_41 : decode prog_14_method_35_code 41 = .ok (.getfield 209, 3) := by decide +kernel
theorem d_Mod_unit_44 : decode prog_14_method_35_code 44 = .ok (.iaload, 1) := by decide +kernel
theorem d_Mod_unit_45 : decode prog_14_method_35_code 45 = .ok (.bipush 32, 2) := by decide +kernel
theorem d_Mod_unit_47 : decode prog_14_method_35_code 47 = .ok (.if_icmp .lt 41, 3) := by decide +kernel
theorem d_Mod_unit_50 : decode prog_14_method_35_code 50 = .ok (.aload_n 0, 1) := by decide +kernel
theorem d_Mod_unit_51 : decode prog_14_method_35_code 51 = .ok (.getfield 20, 3) := by decide +kernel
theorem d_Mod_unit_54 : decode prog_14_method_35_code 54 = .ok (.aload_n 0, 1) := by decide +kernel
theorem d_Mod_unit_55 : decode prog_14_method_35_code 55 = .ok (.getfield 209, 3) := by decide +kernel
theorem d_Mod_unit_58 : decode prog_14_method_35_code 58 = .ok (.iaload, 1) := by decide +kernel
theorem d_Mod_unit_59 : decode prog_14_method_35_code 59 = .ok (.bipush 40, 2) := by decide +kernel
theorem d_Mod_unit_61 : decode prog_14_method_35_code 61 = .ok (.if_icmp .gt 27, 3) := by decide +kernel
theorem d_Mod_unit_64 : decode prog_14_method_35_code 64 = .ok (.aload_n 0, 1) := by decide +kernel
theorem d_Mod_unit_65 : decode prog_14_method_35_code 65 = .ok (.iconst 1, 1) := by decide +kernel
theorem d_Mod_unit_66 : decode prog_14_method_35_code 66 = .ok (.aload_n 0, 1) := by decide +kernel
theorem d_Mod_unit_67 : decode prog_14_method_35_code 67 = .ok (.getfield 20, 3) := by decide +kernel
theorem d_Mod_unit_70 : decode prog_14_method_35_code 70 = .ok (.aload_n 0, 1) := by decide +kernel
theorem d_Mod_unit_71 : decode prog_14_method_35_code 71 = .ok (.getfield 209, 3) := by decide +kernel
theorem d_Mod_unit_74 : decode prog_14_method_35_code 74 = .ok (.iaload, 1) := by decide +kernel
theorem d_Mod_unit_75 : decode prog_14_method_35_code 75 = .ok (.bipush 32, 2) := by decide +kernel
theorem d_Mod_unit_77 : decode prog_14_method_35_code 77 = .ok (.isub, 1) := by decide +kernel
theorem d_Mod_unit_78 : decode prog_14_method_35_code 78 = .ok (.invokevirtual 302, 3) := by decide +kernel
theorem d_Mod_unit_81 : decode prog_14_method_35_code 81 = .ok (.aload_n 0, 1) := by decide +kernel
theorem d_Mod_unit_82 : decode prog_14_method_35_code 82 = .ok (.invokevirtual 227, 3) := by decide +kernel
theorem d_Mod_unit_85 : decode prog_14_method_35_code 85 = .ok (.goto 8, 3) := by decide +kernel
theorem d_Mod_unit_88 : decode prog_14_method_35_code 88 = .ok (.aload_n 0, 1) := by decide +kernel
theorem d_Mod_unit_89 : decode prog_14_method_35_code 89 = .ok (.iconst 1, 1) := by decide +kernel
theorem d_Mod_unit_90 : decode prog_14_method_35_code 90 = .ok (.invokevirtual 221, 3) := by decide +kernel
theorem d_Mod_unit_93 : decode prog_14_method_35_code 93 = .ok (.return_, 1) := by decide +kernel
theorem d_Mod_termOf_0 : decode prog_14_method_36_code 0 = .ok (.iconst 0, 1) := by decide +kernel
theorem d_Mod_termOf_1 : decode prog_14_method_36_code 1 = .ok (.istore_n 3, 1) := by decide +kernel
theorem d_Mod_termOf_2 : decode prog_14_method_36_code 2 = .ok (.iload_n 1, 1) := by decide +kernel
theorem d_Mod_termOf_3 : decode prog_14_method_36_code 3 = .ok (.istore 4, 2) := by decide +kernel
theorem d_Mod_termOf_5 : decode prog_14_method_36_code 5 = .ok (.iload 4, 2) := by decide +kernel
theorem d_Mod_termOf_7 : decode prog_14_method_36_code 7 = .ok (.iload_n 2, 1) := by decide +kernel
theorem d_Mod_termOf_8 : decode prog_14_method_36_code 8 = .ok (.if_icmp .ge 157, 3) := by decide +kernel
theorem d_Mod_termOf_11 : decode prog_14_method_36_code 11 = .ok (.aload_n 0, 1) := by decide +kernel
theorem d_Mod_termOf_12 : decode prog_14_method_36_code 12 = .ok (.getfield 107, 3) := by decide +kernel
theorem d_Mod_termOf_15 : decode prog_14_method_36_code 15 = .ok (.iload 4, 2) := by decide +kernel
theorem d_Mod_termOf_17 : decode prog_14_method_36_code 17 = .ok (.iaload, 1) := by decide +kernel
theorem d_Mod_termOf_18 : decode prog_14_method_36_code 18 = .ok (.istore 5, 2) := by decide +kernel
theorem d_Mod_termOf_20 : decode prog_14_method_36_code 20 = .ok (.iload 5, 2) := by decide +kernel
theorem d_Mod_termOf_22 : decode prog_14_method_36_code 22 = .ok (.iconst 2, 1) := by decide +kernel
theorem d_Mod_termOf_23 : decode prog_14_method_36_code 23 = .ok (.if_icmp .ge 42, 3) := by decide +kernel
theorem d_Mod_termOf_26 : decode prog_14_method_36_code 26 = .ok (.aload_n 0, 1) := by decide +kernel
theorem d_Mod_termOf_27 : decode prog_14_method_36_code 27 = .ok (.getfield 119, 3) := by decide +kernel
theorem d_Mod_termOf_30 : decode prog_14_method_36_code 30 = .ok (.iload_n 3, 1) := by decide +kernel
theorem d_Mod_termOf_31 : decode prog_14_method_36_code 31 = .ok (.iload 5, 2) := by decide +kernel
theorem d_Mod_termOf_33 : decode prog_14_method_36_code 33 = .ok (.ifCond .ne 13, 3) := by decide +kernel
theorem d_Mod_termOf_36 : decode prog_14_method_36_code 36 = .ok (.aload_n 0, 1) := by decide +kernel
theorem d_Mod_termOf_37 : decode prog_14_method_36_code 37 = .ok (.getfield 110, 3) := by decide +kernel
theorem d_Mod_termOf_40 : decode prog_14_method_36_code 40 = .ok (.iload 4, 2) := by decide +kernel
theorem d_Mod_termOf_42 : decode prog_14_method_36_code 42 = .ok (.iaload, 1) := by decide +kernel
theorem d_Mod_termOf_43 : decode prog_14_method_36_code 43 = .ok (.goto 15, 3) := by decide +kernel
theorem d_Mod_termOf_46 : decode prog_14_method_36_code 46 = .ok (.aload_n 0, 1) := by decide +kernel
theorem d_Mod_termOf_47 : decode prog_14_method_36_code 47 = .ok (.getfield 116, 3) := by decide +kernel
theorem d_Mod_termOf_50 : decode prog_14_method_36_code 50 = .ok (.aload_n 0, 1) := by decide +kernel
theorem d_Mod_termOf_51 : decode prog_14_method_36_code 51 = .ok (.getfield 110, 3) := by decide +kernel
theorem d_Mod_termOf_54 : decode prog_14_method_36_code 54 = .ok (.iload 4, 2) := by decide +kernel
theorem d_Mod_termOf_56 : decode prog_14_method_36_code 56 = .ok (.iaload, 1) := by decide +kernel
theorem d_Mod_termOf_57 : decode prog_14_method_36_code 57 = .ok (.iaload, 1) := by decide +kernel
theorem d_Mod_termOf_58 : decode prog_14_method_36_code 58 = .ok (.iastore, 1) := by decide +kernel
theorem d_Mod_termOf_59 : decode prog_14_method_36_code 59 = .ok (.iinc 3 1, 3) := by decide +kernel
theorem d_Mod_termOf_62 : decode prog_14_method_36_code 62 = .ok (.goto 97, 3) := by decide +kernel
theorem d_Mod_termOf_65 : decode prog_14_method_36_code 65 = .ok (.iinc 3 (-1), 3) := by decide +kernel
theorem d_Mod_termOf_68 : decode prog_14_method_36_code 68 = .ok (.aload_n 0, 1) := by decide +kernel
theorem d_Mod_termOf_69 : decode prog_14_method_36_code 69 = .ok (.getfield 119, 3) := by decide +kernel
theorem d_Mod_termOf_72 : decode prog_14_method_36_code 72 = .ok (.iload_n 3, 1) := by decide +kernel
theorem d_Mod_termOf_73 : decode prog_14_method_36_code 73 = .ok (.iconst 1, 1) := by decide +kernel
theorem d_Mod_termOf_74 : decode prog_14_method_36_code 74 = .ok (.isub, 1) := by decide +kernel
theorem d_Mod_termOf_75 : decode prog_14_method_36_code 75 = .ok (.iaload, 1) := by decide +kernel
theorem d_Mod_termOf_76 : decode prog_14_method_36_code 76 = .ok (.istore 6, 2) := by decide +kernel
theorem d_Mod_termOf_78 : decode prog_14_method_36_code 78 = .ok (.aload_n 0, 1) := by decide +kernel
theorem d_Mod_termOf_79 : decode prog_14_method_36_code 79 = .ok (.getfield 119, 3) := by decide +kernel
theorem d_Mod_termOf_82 : decode prog_14_method_36_code 82 = .ok (.iload_n 3, 1) := by decide +kernel
theorem d_Mod_termOf_83 : decode prog_14_method_36_code 83 = .ok (.iaload, 1) := by decide +kernel
theorem d_Mod_termOf_84 : decode prog_14_method_36_code 84 = .ok (.istore 7, 2) := by decide +kernel
theorem d_Mod_termOf_86 : decode prog_14_method_36_code 86 = .ok (.iload 5, 2) := by decide +kernel
theorem d_Mod_termOf_88 : decode prog_14_method_36_code 88 = .ok (.iconst 5, 1) := by decide +kernel
theorem d_Mod_termOf_89 : decode prog_14_method_36_code 89 = .ok (.if_icmp .ne 15, 3) := by decide +kernel
theorem d_Mod_termOf_92 : decode prog_14_method_36_code 92 = .ok (.iload 7, 2) := by decide +kernel
theorem d_Mod_termOf_94 : decode prog_14_method_36_code 94 = .ok (.ifCond .ne 10, 3) := by decide +kernel
theorem d_Mod_termOf_97 : decode prog_14_method_36_code 97 = .ok (.aload_n 0, 1) := by decide +kernel
theorem d_Mod_termOf_98 : decode prog_14_method_36_code 98 = .ok (.iconst 1, 1) := by decide +kernel
theorem d_Mod_termOf_99 : decode prog_14_method_36_code 99 = .ok (.putfield 312, 3) := by decide +kernel
theorem d_Mod_termOf_102 : decode prog_14_method_36_code 102 = .ok (.iconst 0, 1) := by decide +kernel
theorem d_Mod_termOf_103 : decode prog_14_method_36_code 103 = .ok (.ireturn, 1) := by decide +kernel
theorem d_Mod_termOf_104 : decode prog_14_method_36_code 104 = .ok (.aload_n 0, 1) := by decide +kernel
theorem d_Mod_termOf_105 : decode prog_14_method_36_code 105 = .ok (.getfield 119, 3) := by decide +kernel
theorem d_Mod_termOf_108 : decode prog_14_method_36_code 108 = .ok (.iload_n 3, 1) := by decide +kernel
theorem d_Mod_termOf_109 : decode prog_14_method_36_code 109 = .ok (.iconst 1, 1) := by decide +kernel
theorem d_Mod_termOf_110 : decode prog_14_method_36_code 110 = .ok (.isub, 1) := by decide +kernel
theorem d_Mod_termOf_111 : decode prog_14_method_36_code 111 = .ok (.iload 5, 2) := by decide +kernel
theorem d_Mod_termOf_113 : decode prog_14_method_36_code 113 = .ok (.iconst 2, 1) := by decide +kernel
theorem d_Mod_termOf_114 : decode prog_14_method_36_code 114 = .ok (.if_icmp .ne 11, 3) := by decide +kernel
theorem d_Mod_termOf_117 : decode prog_14_method_36_code 117 = .ok (.iload 6, 2) := by decide +kernel
theorem d_Mod_termOf_119 : decode prog_14_method_36_code 119 = .ok (.iload 7, 2) := by decide +kernel
theorem d_Mod_termOf_121 : decode prog_14_method_36_code 121 = .ok (.iadd, 1) := by decide +kernel
theorem d_Mod_termOf_122 : decode prog_14_method_36_code 122 = .ok (.goto 36, 3) := by decide +kernel
theorem d_Mod_termOf_125 : decode prog_14_method_36_code 125 = .ok (.iload 5, 2) := by decide +kernel
theorem d_Mod_termOf_127 : decode prog_14_method_36_code 127 = .ok (.iconst 3, 1) := by decide +kernel
theorem d_Mod_termOf_128 : decode prog_14_method_36_code 128 = .ok (.if_icmp .ne 11, 3) := by decide +kernel
theorem d_Mod_termOf_131 : decode prog_14_method_36_code 131 = .ok (.iload 6, 2) := by decide +kernel
theorem d_Mod_termOf_133 : decode prog_14_method_36_code 133 = .ok (.iload 7, 2) := by decide +kernel
theorem d_Mod_termOf_135 : decode prog_14_method_36_code 135 = .ok (.isub, 1) := by decide +kernel
theorem d_Mod_termOf_136 : decode prog_14_method_36_code 136 = .ok (.goto 22, 3) := by decide +kernel
theorem d_Mod_termOf_139 : decode prog_14_method_36_code 139 = .ok (.iload 5, 2) := by decide +kernel
theorem d_Mod_termOf_141 : decode prog_14_method_36_code 141 = .ok (.iconst 4, 1) := by decide +kernel
theorem d_Mod_termOf_142 : decode prog_14_method_36_code 142 = .ok (.if_icmp .ne 11, 3) := by decide +kernel
theorem d_Mod_termOf_145 : decode prog_14_method_36_code 145 = .ok (.iload 6, 2) := by decide +kernel
theorem d_Mod_termOf_147 : decode prog_14_method_36_code 147 = .ok (.iload 7, 2) := by decide +kernel
theorem d_Mod_termOf_149 : decode prog_14_method_36_code 149 = .ok (.imul, 1) := by decide +kernel
theorem d_Mod_termOf_150 : decode prog_14_method_36_code 150 = .ok (.goto 8, 3) := by decide +kernel
theorem d_Mod_termOf_153 : decode prog_14_method_36_code 153 = .ok (.iload 6, 2) := by decide +kernel
theorem d_Mod_termOf_155 : decode prog_14_method_36_code 155 = .ok (.iload 7, 2) := by decide +kernel
theorem d_Mod_termOf_157 : decode prog_14_method_36_code 157 = .ok (.idiv, 1) := by decide +kernel
theorem d_Mod_termOf_158 : decode prog_14_method_36_code 158 = .ok (.iastore, 1) := by decide +kernel
theorem d_Mod_termOf_159 : decode prog_14_method_36_code 159 = .ok (.iinc 4 1, 3) := by decide +kernel
theorem d_Mod_termOf_162 : decode prog_14_method_36_code 162 = .ok (.goto (-157), 3) := by decide +kernel
theorem d_Mod_termOf_165 : decode prog_14_method_36_code 165 = .ok (.aload_n 0, 1) := by decide +kernel
theorem d_Mod_termOf_166 : decode prog_14_method_36_code 166 = .ok (.getfield 119, 3) := by decide +kernel
theorem d_Mod_termOf_169 : decode prog_14_method_36_code 169 = .ok (.iconst 0, 1) := by decide +kernel
theorem d_Mod_termOf_170 : decode prog_14_method_36_code 170 = .ok (.iaload, 1) := by decide +kernel
theorem d_Mod_termOf_171 : decode prog_14_method_36_code 171 = .ok (.ireturn, 1) := by decide +kernel
theorem d_Mod_in_0 : decode prog_14_method_37_code 0 = .ok (.iload_n 0, 1) := by decide +kernel
theorem d_Mod_in_1 : decode prog_14_method_37_code 1 = .ok (.iload_n 1, 1) := by decide +kernel
theorem d_Mod_in_2 : decode prog_14_method_37_code 2 = .ok (.if_icmp .lt 12, 3) := by decide +kernel
theorem d_Mod_in_5 : decode prog_14_method_37_code 5 = .ok (.iload_n 0, 1) := by decide +kernel
theorem d_Mod_in_6 : decode prog_14_method_37_code 6 = .ok (.iload_n 2, 1) := by decide +kernel
theorem d_Mod_in_7 : decode prog_14_method_37_code 7 = .ok (.if_icmp .gt 7, 3) := by decide +kernel
theorem d_Mod_in_10 : decode prog_14_method_37_code 10 = .ok (.iconst 1, 1) := by decide +kernel
theorem d_Mod_in_11 : decode prog_14_method_37_code 11 = .ok (.goto 4, 3) := by decide +kernel
theorem d_Mod_in_14 : decode prog_14_method_37_code 14 = .ok (.iconst 0, 1) := by decide +kernel
theorem d_Mod_in_15 : decode prog_14_method_37_code 15 = .ok (.ireturn, 1) := by decide +kernel
theorem d_Mod_held_0 : decode prog_14_method_38_code 0 = .ok (.iload_n 0, 1) := by decide +kernel
theorem d_Mod_held_1 : decode prog_14_method_38_code 1 = .ok (.iload_n 1, 1) := by decide +kernel
theorem d_Mod_held_2 : decode prog_14_method_38_code 2 = .ok (.if_icmp .ge 7, 3) := by decide +kernel
theorem d_Mod_held_5 : decode prog_14_method_38_code 5 = .ok (.iload_n 1, 1) := by decide +kernel
theorem d_Mod_held_6 : decode prog_14_method_38_code 6 = .ok (.goto 13, 3) := by decide +kernel
theorem d_Mod_held_9 : decode prog_14_method_38_code 9 = .ok (.iload_n 0, 1) := by decide +kernel
theorem d_Mod_held_10 : decode prog_14_method_38_code 10 = .ok (.iload_n 2, 1) := by decide +kernel
theorem d_Mod_held_11 : decode prog_14_method_38_code 11 = .ok (.if_icmp .le 7, 3) := by decide +kernel
theorem d_Mod_held_14 : decode prog_14_method_38_code 14 = .ok (.iload_n 2, 1) := by decide +kernel
theorem d_Mod_held_15 : decode prog_14_method_38_code 15 = .ok (.goto 4, 3) := by decide +kernel
theorem d_Mod_held_18 : decode prog_14_method_38_code 18 = .ok (.iload_n 0, 1) := by decide +kernel
theorem d_Mod_held_19 : decode prog_14_method_38_code 19 = .ok (.ireturn, 1) := by decide +kernel
theorem d_Mod_bits_0 : decode prog_14_method_39_code 0 = .ok (.iconst 0, 1) := by decide +kernel
theorem d_Mod_bits_1 : decode prog_14_method_39_code 1 = .ok (.istore_n 1, 1) := by decide +kernel
theorem d_Mod_bits_2 : decode prog_14_method_39_code 2 = .ok (.iconst 0, 1) := by decide +kernel
theorem d_Mod_bits_3 : decode prog_14_method_39_code 3 = .ok (.istore_n 2, 1) := by decide +kernel
theorem d_Mod_bits_4 : decode prog_14_method_39_code 4 = .ok (.iload_n 2, 1) := by decide +kernel
theorem d_Mod_bits_5 : decode prog_14_method_39_code 5 = .ok (.bipush 6, 2) := by decide +kernel
theorem d_Mod_bits_7 : decode prog_14_method_39_code 7 = .ok (.if_icmp .ge 17, 3) := by decide +kernel
theorem d_Mod_bits_10 : decode prog_14_method_39_code 10 = .ok (.iload_n 1, 1) := by decide +kernel
theorem d_Mod_bits_11 : decode prog_14_method_39_code 11 = .ok (.iload_n 0, 1) := by decide +kernel
theorem d_Mod_bits_12 : decode prog_14_method_39_code 12 = .ok (.iload_n 2, 1) := by decide +kernel
theorem d_Mod_bits_13 : decode prog_14_method_39_code 13 = .ok (.ishr, 1) := by decide +kernel
theorem d_Mod_bits_14 : decode prog_14_method_39_code 14 = .ok (.iconst 1, 1) := by decide +kernel
theorem d_Mod_bits_15 : decode prog_14_method_39_code 15 = .ok (.iand, 1) := by decide +kernel
theorem d_Mod_bits_16 : decode prog_14_method_39_code 16 = .ok (.iadd, 1) := by decide +kernel
theorem d_Mod_bits_17 : decode prog_14_method_39_code 17 = .ok (.istore_n 1, 1) := by decide +kernel
theorem d_Mod_bits_18 : decode prog_14_method_39_code 18 = .ok (.iinc 2 1, 3) := by decide +kernel
theorem d_Mod_bits_21 : decode prog_14_method_39_code 21 = .ok (.goto (-17), 3) := by decide +kernel
theorem d_Mod_bits_24 : decode prog_14_method_39_code 24 = .ok (.iload_n 1, 1) := by decide +kernel
theorem d_Mod_bits_25 : decode prog_14_method_39_code 25 = .ok (.ireturn, 1) := by decide +kernel
theorem d_Mod_isFood_0 : decode prog_14_method_40_code 0 = .ok (.iload_n 1, 1) := by decide +kernel
theorem d_Mod_isFood_1 : decode prog_14_method_40_code 1 = .ok (.iconst 0, 1) := by decide +kernel
theorem d_Mod_isFood_2 : decode prog_14_method_40_code 2 = .ok (.aload_n 0, 1) := by decide +kernel
theorem d_Mod_isFood_3 : decode prog_14_method_40_code 3 = .ok (.getfield 46, 3) := by decide +kernel
theorem d_Mod_isFood_6 : decode prog_14_method_40_code 6 = .ok (.aload_n 0, 1) := by decide +kernel
theorem d_Mod_isFood_7 : decode prog_14_method_40_code 7 = .ok (.getfield 236, 3) := by decide +kernel
theorem d_Mod_isFood_10 : decode prog_14_method_40_code 10 = .ok (.iaload, 1) := by decide +kernel
theorem d_Mod_isFood_11 : decode prog_14_method_40_code 11 = .ok (.iconst 1, 1) := by decide +kernel
theorem d_Mod_isFood_12 : decode prog_14_method_40_code 12 = .ok (.isub, 1) := by decide +kernel
theorem d_Mod_isFood_13 : decode prog_14_method_40_code 13 = .ok (.invokestatic 316, 3) := by decide +kernel
theorem d_Mod_isFood_16 : decode prog_14_method_40_code 16 = .ok (.ireturn, 1) := by decide +kernel
theorem d_Mod_isDish_0 : decode prog_14_method_41_code 0 = .ok (.iload_n 1, 1) := by decide +kernel
theorem d_Mod_isDish_1 : decode prog_14_method_41_code 1 = .ok (.iconst 0, 1) := by decide +kernel
theorem d_Mod_isDish_2 : decode prog_14_method_41_code 2 = .ok (.aload_n 0, 1) := by decide +kernel
theorem d_Mod_isDish_3 : decode prog_14_method_41_code 3 = .ok (.getfield 58, 3) := by decide +kernel
theorem d_Mod_isDish_6 : decode prog_14_method_41_code 6 = .ok (.aload_n 0, 1) := by decide +kernel
theorem d_Mod_isDish_7 : decode prog_14_method_41_code 7 = .ok (.getfield 236, 3) := by decide +kernel
theorem d_Mod_isDish_10 : decode prog_14_method_41_code 10 = .ok (.iaload, 1) := by decide +kernel
theorem d_Mod_isDish_11 : decode prog_14_method_41_code 11 = .ok (.iconst 1, 1) := by decide +kernel
theorem d_Mod_isDish_12 : decode prog_14_method_41_code 12 = .ok (.isub, 1) := by decide +kernel
theorem d_Mod_isDish_13 : decode prog_14_method_41_code 13 = .ok (.invokestatic 316, 3) := by decide +kernel
theorem d_Mod_isDish_16 : decode prog_14_method_41_code 16 = .ok (.ireturn, 1) := by decide +kernel
theorem d_Mod_isGuest_0 : decode prog_14_method_42_code 0 = .ok (.iload_n 1, 1) := by decide +kernel
theorem d_Mod_isGuest_1 : decode prog_14_method_42_code 1 = .ok (.iconst 0, 1) := by decide +kernel
theorem d_Mod_isGuest_2 : decode prog_14_method_42_code 2 = .ok (.aload_n 0, 1) := by decide +kernel
theorem d_Mod_isGuest_3 : decode prog_14_method_42_code 3 = .ok (.getfield 67, 3) := by decide +kernel
theorem d_Mod_isGuest_6 : decode prog_14_method_42_code 6 = .ok (.aload_n 0, 1) := by decide +kernel
theorem d_Mod_isGuest_7 : decode prog_14_method_42_code 7 = .ok (.getfield 236, 3) := by decide +kernel
theorem d_Mod_isGuest_10 : decode prog_14_method_42_code 10 = .ok (.iaload, 1) := by decide +kernel
theorem d_Mod_isGuest_11 : decode prog_14_method_42_code 11 = .ok (.iconst 1, 1) := by decide +kernel
theorem d_Mod_isGuest_12 : decode prog_14_method_42_code 12 = .ok (.isub, 1) := by decide +kernel
theorem d_Mod_isGuest_13 : decode prog_14_method_42_code 13 = .ok (.invokestatic 316, 3) := by decide +kernel
theorem d_Mod_isGuest_16 : decode prog_14_method_42_code 16 = .ok (.ireturn, 1) := by decide +kernel
theorem d_Mod_isDeed_0 : decode prog_14_method_43_code 0 = .ok (.iload_n 1, 1) := by decide +kernel
theorem d_Mod_isDeed_1 : decode prog_14_method_43_code 1 = .ok (.iconst 0, 1) := by decide +kernel
theorem d_Mod_isDeed_2 : decode prog_14_method_43_code 2 = .ok (.aload_n 0, 1) := by decide +kernel
theorem d_Mod_isDeed_3 : decode prog_14_method_43_code 3 = .ok (.getfield 73, 3) := by decide +kernel
theorem d_Mod_isDeed_6 : decode prog_14_method_43_code 6 = .ok (.aload_n 0, 1) := by decide +kernel
theorem d_Mod_isDeed_7 : decode prog_14_method_43_code 7 = .ok (.getfield 236, 3) := by decide +kernel
theorem d_Mod_isDeed_10 : decode prog_14_method_43_code 10 = .ok (.iaload, 1) := by decide +kernel
theorem d_Mod_isDeed_11 : decode prog_14_method_43_code 11 = .ok (.iconst 1, 1) := by decide +kernel
theorem d_Mod_isDeed_12 : decode prog_14_method_43_code 12 = .ok (.isub, 1) := by decide +kernel
theorem d_Mod_isDeed_13 : decode prog_14_method_43_code 13 = .ok (.invokestatic 316, 3) := by decide +kernel
theorem d_Mod_isDeed_16 : decode prog_14_method_43_code 16 = .ok (.ireturn, 1) := by decide +kernel
theorem d_Mod_begins_0 : decode prog_14_method_44_code 0 = .ok (.iconst 0, 1) := by decide +kernel
theorem d_Mod_begins_1 : decode prog_14_method_44_code 1 = .ok (.istore_n 1, 1) := by decide +kernel
theorem d_Mod_begins_2 : decode prog_14_method_44_code 2 = .ok (.iload_n 1, 1) := by decide +kernel
theorem d_Mod_begins_3 : decode prog_14_method_44_code 3 = .ok (.bipush 38, 2) := by decide +kernel
theorem d_Mod_begins_5 : decode prog_14_method_44_code 5 = .ok (.if_icmp .ge 16, 3) := by decide +kernel
theorem d_Mod_begins_8 : decode prog_14_method_44_code 8 = .ok (.aload_n 0, 1) := by decide +kernel
theorem d_Mod_begins_9 : decode prog_14_method_44_code 9 = .ok (.getfield 125, 3) := by decide +kernel
theorem d_Mod_begins_12 : decode prog_14_method_44_code 12 = .ok (.iload_n 1, 1) := by decide +kernel
theorem d_Mod_begins_13 : decode prog_14_method_44_code 13 = .ok (.iconst 0, 1) := by decide +kernel
theorem d_Mod_begins_14 : decode prog_14_method_44_code 14 = .ok (.iastore, 1) := by decide +kernel
theorem d_Mod_begins_15 : decode prog_14_method_44_code 15 = .ok (.iinc 1 1, 3) := by decide +kernel
theorem d_Mod_begins_18 : decode prog_14_method_44_code 18 = .ok (.goto (-16), 3) := by decide +kernel
theorem d_Mod_begins_21 : decode prog_14_method_44_code 21 = .ok (.iconst 0, 1) := by decide +kernel
theorem d_Mod_begins_22 : decode prog_14_method_44_code 22 = .ok (.istore_n 1, 1) := by decide +kernel
theorem d_Mod_begins_23 : decode prog_14_method_44_code 23 = .ok (.iload_n 1, 1) := by decide +kernel
theorem d_Mod_begins_24 : decode prog_14_method_44_code 24 = .ok (.aload_n 0, 1) := by decide +kernel
theorem d_Mod_begins_25 : decode prog_14_method_44_code 25 = .ok (.getfield 46, 3) := by decide +kernel
theorem d_Mod_begins_28 : decode prog_14_method_44_code 28 = .ok (.aload_n 0, 1) := by decide +kernel
theorem d_Mod_begins_29 : decode prog_14_method_44_code 29 = .ok (.getfield 236, 3) := by decide +kernel
theorem d_Mod_begins_32 : decode prog_14_method_44_code 32 = .ok (.iaload, 1) := by decide +kernel
theorem d_Mod_begins_33 : decode prog_14_method_44_code 33 = .ok (.if_icmp .ge 29, 3) := by decide +kernel
theorem d_Mod_begins_36 : decode prog_14_method_44_code 36 = .ok (.aload_n 0, 1) := by decide +kernel
theorem d_Mod_begins_37 : decode prog_14_method_44_code 37 = .ok (.getfield 125, 3) := by decide +kernel
theorem d_Mod_begins_40 : decode prog_14_method_44_code 40 = .ok (.iload_n 1, 1) := by decide +kernel
theorem d_Mod_begins_41 : decode prog_14_method_44_code 41 = .ok (.aload_n 0, 1) := by decide +kernel
theorem d_Mod_begins_42 : decode prog_14_method_44_code 42 = .ok (.getfield 49, 3) := by decide +kernel
theorem d_Mod_begins_45 : decode prog_14_method_44_code 45 = .ok (.bipush 6, 2) := by decide +kernel
theorem d_Mod_begins_47 : decode prog_14_method_44_code 47 = .ok (.aload_n 0, 1) := by decide +kernel
theorem d_Mod_begins_48 : decode prog_14_method_44_code 48 = .ok (.getfield 236, 3) := by decide +kernel
theorem d_Mod_begins_51 : decode prog_14_method_44_code 51 = .ok (.imul, 1) := by decide +kernel
theorem d_Mod_begins_52 : decode prog_14_method_44_code 52 = .ok (.iload_n 1, 1) := by decide +kernel
theorem d_Mod_begins_53 : decode prog_14_method_44_code 53 = .ok (.iadd, 1) := by decide +kernel
theorem d_Mod_begins_54 : decode prog_14_method_44_code 54 = .ok (.iaload, 1) := by decide +kernel
theorem d_Mod_begins_55 : decode prog_14_method_44_code 55 = .ok (.iastore, 1) := by decide +kernel
theorem d_Mod_begins_56 : decode prog_14_method_44_code 56 = .ok (.iinc 1 1, 3) := by decide +kernel
theorem d_Mod_begins_59 : decode prog_14_method_44_code 59 = .ok (.goto (-36), 3) := by decide +kernel
theorem d_Mod_begins_62 : decode prog_14_method_44_code 62 = .ok (.aload_n 0, 1) := by decide +kernel
theorem d_Mod_begins_63 : decode prog_14_method_44_code 63 = .ok (.getfield 125, 3) := by decide +kernel
theorem d_Mod_begins_66 : decode prog_14_method_44_code 66 = .ok (.bipush 11, 2) := by decide +kernel
theorem d_Mod_begins_68 : decode prog_14_method_44_code 68 = .ok (.bipush (-2), 2) := by decide +kernel
theorem d_Mod_begins_70 : decode prog_14_method_44_code 70 = .ok (.iastore, 1) := by decide +kernel
theorem d_Mod_begins_71 : decode prog_14_method_44_code 71 = .ok (.iconst 0, 1) := by decide +kernel
theorem d_Mod_begins_72 : decode prog_14_method_44_code 72 = .ok (.istore_n 1, 1) := by decide +kernel
theorem d_Mod_begins_73 : decode prog_14_method_44_code 73 = .ok (.iload_n 1, 1) := by decide +kernel
theorem d_Mod_begins_74 : decode prog_14_method_44_code 74 = .ok (.iconst 4, 1) := by decide +kernel
theorem d_Mod_begins_75 : decode prog_14_method_44_code 75 = .ok (.if_icmp .ge 20, 3) := by decide +kernel
theorem d_Mod_begins_78 : decode prog_14_method_44_code 78 = .ok (.aload_n 0, 1) := by decide +kernel
theorem d_Mod_begins_79 : decode prog_14_method_44_code 79 = .ok (.getfield 125, 3) := by decide +kernel
theorem d_Mod_begins_82 : decode prog_14_method_44_code 82 = .ok (.bipush 15, 2) := by decide +kernel
theorem d_Mod_begins_84 : decode prog_14_method_44_code 84 = .ok (.iload_n 1, 1) := by decide +kernel
theorem d_Mod_begins_85 : decode prog_14_method_44_code 85 = .ok (.iadd, 1) := by decide +kernel
theorem d_Mod_begins_86 : decode prog_14_method_44_code 86 = .ok (.bipush (-2), 2) := by decide +kernel
theorem d_Mod_begins_88 : decode prog_14_method_44_code 88 = .ok (.iastore, 1) := by decide +kernel
theorem d_Mod_begins_89 : decode prog_14_method_44_code 89 = .ok (.iinc 1 1, 3) := by decide +kernel
theorem d_Mod_begins_92 : decode prog_14_method_44_code 92 = .ok (.goto (-19), 3) := by decide +kernel
theorem d_Mod_begins_95 : decode prog_14_method_44_code 95 = .ok (.aload_n 0, 1) := by decide +kernel
theorem d_Mod_begins_96 : decode prog_14_method_44_code 96 = .ok (.aload_n 0, 1) := by decide +kernel
theorem d_Mod_begins_97 : decode prog_14_method_44_code 97 = .ok (.getfield 82, 3) := by decide +kernel
theorem d_Mod_begins_100 : decode prog_14_method_44_code 100 = .ok (.aload_n 0, 1) := by decide +kernel
theorem d_Mod_begins_101 : decode prog_14_method_44_code 101 = .ok (.getfield 236, 3) := by decide +kernel
theorem d_Mod_begins_104 : decode prog_14_method_44_code 104 = .ok (.iaload, 1) := by decide +kernel
theorem d_Mod_begins_105 : decode prog_14_method_44_code 105 = .ok (.putfield 320, 3) := by decide +kernel
theorem d_Mod_begins_108 : decode prog_14_method_44_code 108 = .ok (.return_, 1) := by decide +kernel
theorem d_Mod_keepsRow_0 : decode prog_14_method_45_code 0 = .ok (.iconst 0, 1) := by decide +kernel
theorem d_Mod_keepsRow_1 : decode prog_14_method_45_code 1 = .ok (.istore_n 1, 1) := by decide +kernel
theorem d_Mod_keepsRow_2 : decode prog_14_method_45_code 2 = .ok (.iload_n 1, 1) := by decide +kernel
theorem d_Mod_keepsRow_3 : decode prog_14_method_45_code 3 = .ok (.bipush 38, 2) := by decide +kernel
theorem d_Mod_keepsRow_5 : decode prog_14_method_45_code 5 = .ok (.if_icmp .ge 21, 3) := by decide +kernel
theorem d_Mod_keepsRow_8 : decode prog_14_method_45_code 8 = .ok (.aload_n 0, 1) := by decide +kernel
theorem d_Mod_keepsRow_9 : decode prog_14_method_45_code 9 = .ok (.getfield 122, 3) := by decide +kernel
theorem d_Mod_keepsRow_12 : decode prog_14_method_45_code 12 = .ok (.iload_n 1, 1) := by decide +kernel
theorem d_Mod_keepsRow_13 : decode prog_14_method_45_code 13 = .ok (.aload_n 0, 1) := by decide +kernel
theorem d_Mod_keepsRow_14 : decode prog_14_method_45_code 14 = .ok (.getfield 125, 3) := by decide +kernel
theorem d_Mod_keepsRow_17 : decode prog_14_method_45_code 17 = .ok (.iload_n 1, 1) := by decide +kernel
theorem d_Mod_keepsRow_18 : decode prog_14_method_45_code 18 = .ok (.iaload, 1) := by decide +kernel
theorem d_Mod_keepsRow_19 : decode prog_14_method_45_code 19 = .ok (.iastore, 1) := by decide +kernel
theorem d_Mod_keepsRow_20 : decode prog_14_method_45_code 20 = .ok (.iinc 1 1, 3) := by decide +kernel
theorem d_Mod_keepsRow_23 : decode prog_14_method_45_code 23 = .ok (.goto (-21), 3) := by decide +kernel
theorem d_Mod_keepsRow_26 : decode prog_14_method_45_code 26 = .ok (.return_, 1) := by decide +kernel
theorem d_Mod_copies_0 : decode prog_14_method_46_code 0 = .ok (.iconst 0, 1) := by decide +kernel
theorem d_Mod_copies_1 : decode prog_14_method_46_code 1 = .ok (.istore_n 1, 1) := by decide +kernel
theorem d_Mod_copies_2 : decode prog_14_method_46_code 2 = .ok (.iload_n 1, 1) := by decide +kernel
theorem d_Mod_copies_3 : decode prog_14_method_46_code 3 = .ok (.bipush 38, 2) := by decide +kernel
theorem d_Mod_copies_5 : decode prog_14_method_46_code 5 = .ok (.if_icmp .ge 21, 3) := by decide +kernel
theorem d_Mod_copies_8 : decode prog_14_method_46_code 8 = .ok (.aload_n 0, 1) := by decide +kernel
theorem d_Mod_copies_9 : decode prog_14_method_46_code 9 = .ok (.getfield 125, 3) := by decide +kernel
theorem d_Mod_copies_12 : decode prog_14_method_46_code 12 = .ok (.iload_n 1, 1) := by decide +kernel
theorem d_Mod_copies_13 : decode prog_14_method_46_code 13 = .ok (.aload_n 0, 1) := by decide +kernel
theorem d_Mod_copies_14 : decode prog_14_method_46_code 14 = .ok (.getfield 122, 3) := by decide +kernel
theorem d_Mod_copies_17 : decode prog_14_method_46_code 17 = .ok (.iload_n 1, 1) := by decide +kernel
theorem d_Mod_copies_18 : decode prog_14_method_46_code 18 = .ok (.iaload, 1) := by decide +kernel
theorem d_Mod_copies_19 : decode prog_14_method_46_code 19 = .ok (.iastore, 1) := by decide +kernel
theorem d_Mod_copies_20 : decode prog_14_method_46_code 20 = .ok (.iinc 1 1, 3) := by decide +kernel
theorem d_Mod_copies_23 : decode prog_14_method_46_code 23 = .ok (.goto (-21), 3) := by decide +kernel
theorem d_Mod_copies_26 : decode prog_14_method_46_code 26 = .ok (.aload_n 0, 1) := by decide +kernel
theorem d_Mod_copies_27 : decode prog_14_method_46_code 27 = .ok (.aload_n 0, 1) := by decide +kernel
theorem d_Mod_copies_28 : decode prog_14_method_46_code 28 = .ok (.getfield 82, 3) := by decide +kernel
theorem d_Mod_copies_31 : decode prog_14_method_46_code 31 = .ok (.aload_n 0, 1) := by decide +kernel
theorem d_Mod_copies_32 : decode prog_14_method_46_code 32 = .ok (.getfield 236, 3) := by decide +kernel
theorem d_Mod_copies_35 : decode prog_14_method_46_code 35 = .ok (.iaload, 1) := by decide +kernel
theorem d_Mod_copies_36 : decode prog_14_method_46_code 36 = .ok (.putfield 320, 3) := by decide +kernel
theorem d_Mod_copies_39 : decode prog_14_method_46_code 39 = .ok (.return_, 1) := by decide +kernel
theorem d_Mod_mixed_0 : decode prog_14_method_47_code 0 = .ok (.iload_n 0, 1) := by decide +kernel
theorem d_Mod_mixed_1 : decode prog_14_method_47_code 1 = .ok (.iload_n 1, 1) := by decide +kernel
theorem d_Mod_mixed_2 : decode prog_14_method_47_code 2 = .ok (.ixor, 1) := by decide +kernel
theorem d_Mod_mixed_3 : decode prog_14_method_47_code 3 = .ok (.ldc_w 323, 3) := by decide +kernel
theorem d_Mod_mixed_6 : decode prog_14_method_47_code 6 = .ok (.imul, 1) := by decide +kernel
theorem d_Mod_mixed_7 : decode prog_14_method_47_code 7 = .ok (.sipush 12345, 3) := by decide +kernel
theorem d_Mod_mixed_10 : decode prog_14_method_47_code 10 = .ok (.iadd, 1) := by decide +kernel
theorem d_Mod_mixed_11 : decode prog_14_method_47_code 11 = .ok (.istore_n 2, 1) := by decide +kernel
theorem d_Mod_mixed_12 : decode prog_14_method_47_code 12 = .ok (.iload_n 2, 1) := by decide +kernel
theorem d_Mod_mixed_13 : decode prog_14_method_47_code 13 = .ok (.iload_n 2, 1) := by decide +kernel
theorem d_Mod_mixed_14 : decode prog_14_method_47_code 14 = .ok (.bipush 15, 2) := by decide +kernel
theorem d_Mod_mixed_16 : decode prog_14_method_47_code 16 = .ok (.iushr, 1) := by decide +kernel
theorem d_Mod_mixed_17 : decode prog_14_method_47_code 17 = .ok (.ixor, 1) := by decide +kernel
theorem d_Mod_mixed_18 : decode prog_14_method_47_code 18 = .ok (.ireturn, 1) := by decide +kernel
theorem d_Mod_lotOf_0 : decode prog_14_method_48_code 0 = .ok (.aload_n 0, 1) := by decide +kernel
theorem d_Mod_lotOf_1 : decode prog_14_method_48_code 1 = .ok (.getfield 320, 3) := by decide +kernel
theorem d_Mod_lotOf_4 : decode prog_14_method_48_code 4 = .ok (.bipush 103, 2) := by decide +kernel
theorem d_Mod_lotOf_6 : decode prog_14_method_48_code 6 = .ok (.invokestatic 324, 3) := by decide +kernel
theorem d_Mod_lotOf_9 : decode prog_14_method_48_code 9 = .ok (.iload_n 1, 1) := by decide +kernel
theorem d_Mod_lotOf_10 : decode prog_14_method_48_code 10 = .ok (.invokestatic 324, 3) := by decide +kernel
theorem d_Mod_lotOf_13 : decode prog_14_method_48_code 13 = .ok (.iconst 1, 1) := by decide +kernel
theorem d_Mod_lotOf_14 : decode prog_14_method_48_code 14 = .ok (.iushr, 1) := by decide +kernel
theorem d_Mod_lotOf_15 : decode prog_14_method_48_code 15 = .ok (.iload_n 2, 1) := by decide +kernel
theorem d_Mod_lotOf_16 : decode prog_14_method_48_code 16 = .ok (.irem, 1) := by decide +kernel
theorem d_Mod_lotOf_17 : decode prog_14_method_48_code 17 = .ok (.ireturn, 1) := by decide +kernel
theorem d_Mod_looks_0 : decode prog_14_method_49_code 0 = .ok (.iconst 0, 1) := by decide +kernel
theorem d_Mod_looks_1 : decode prog_14_method_49_code 1 = .ok (.istore_n 1, 1) := by decide +kernel
theorem d_Mod_looks_2 : decode prog_14_method_49_code 2 = .ok (.iload_n 1, 1) := by decide +kernel
theorem d_Mod_looks_3 : decode prog_14_method_49_code 3 = .ok (.bipush 9, 2) := by decide +kernel
theorem d_Mod_looks_5 : decode prog_14_method_49_code 5 = .ok (.if_icmp .ge 16, 3) := by decide +kernel
theorem d_Mod_looks_8 : decode prog_14_method_49_code 8 = .ok (.aload_n 0, 1) := by decide +kernel
theorem d_Mod_looks_9 : decode prog_14_method_49_code 9 = .ok (.getfield 116, 3) := by decide +kernel
theorem d_Mod_looks_12 : decode prog_14_method_49_code 12 = .ok (.iload_n 1, 1) := by decide +kernel
theorem d_Mod_looks_13 : decode prog_14_method_49_code 13 = .ok (.iconst 0, 1) := by decide +kernel
theorem d_Mod_looks_14 : decode prog_14_method_49_code 14 = .ok (.iastore, 1) := by decide +kernel
theorem d_Mod_looks_15 : decode prog_14_method_49_code 15 = .ok (.iinc 1 1, 3) := by decide +kernel
theorem d_Mod_looks_18 : decode prog_14_method_49_code 18 = .ok (.goto (-16), 3) := by decide +kernel
theorem d_Mod_looks_21 : decode prog_14_method_49_code 21 = .ok (.aload_n 0, 1) := by decide +kernel
theorem d_Mod_looks_22 : decode prog_14_method_49_code 22 = .ok (.getfield 116, 3) := by decide +kernel
theorem d_Mod_looks_25 : decode prog_14_method_49_code 25 = .ok (.iconst 4, 1) := by decide +kernel
theorem d_Mod_looks_26 : decode prog_14_method_49_code 26 = .ok (.aload_n 0, 1) := by decide +kernel
theorem d_Mod_looks_27 : decode prog_14_method_49_code 27 = .ok (.getfield 125, 3) := by decide +kernel
theorem d_Mod_looks_30 : decode prog_14_method_49_code 30 = .ok (.bipush 35, 2) := by decide +kernel
theorem d_Mod_looks_32 : decode prog_14_method_49_code 32 = .ok (.iaload, 1) := by decide +kernel
theorem d_Mod_looks_33 : decode prog_14_method_49_code 33 = .ok (.iastore, 1) := by decide +kernel
theorem d_Mod_looks_34 : decode prog_14_method_49_code 34 = .ok (.return_, 1) := by decide +kernel
theorem d_Mod_asks_0 : decode prog_14_method_50_code 0 = .ok (.iconst 4, 1) := by decide +kernel
theorem d_Mod_asks_1 : decode prog_14_method_50_code 1 = .ok (.aload_n 0, 1) := by decide +kernel
theorem d_Mod_asks_2 : decode prog_14_method_50_code 2 = .ok (.getfield 236, 3) := by decide +kernel
theorem d_Mod_asks_5 : decode prog_14_method_50_code 5 = .ok (.imul, 1) := by decide +kernel
theorem d_Mod_asks_6 : decode prog_14_method_50_code 6 = .ok (.iload_n 1, 1) := by decide +kernel
theorem d_Mod_asks_7 : decode prog_14_method_50_code 7 = .ok (.iadd, 1) := by decide +kernel
theorem d_Mod_asks_8 : decode prog_14_method_50_code 8 = .ok (.istore 5, 2) := by decide +kernel
theorem d_Mod_asks_10 : decode prog_14_method_50_code 10 = .ok (.iload_n 2, 1) := by decide +kernel
theorem d_Mod_asks_11 : decode prog_14_method_50_code 11 = .ok (.istore 6, 2) := by decide +kernel
theorem d_Mod_asks_13 : decode prog_14_method_50_code 13 = .ok (.aload_n 0, 1) := by decide +kernel
theorem d_Mod_asks_14 : decode prog_14_method_50_code 14 = .ok (.getfield 85, 3) := by decide +kernel
theorem d_Mod_asks_17 : decode prog_14_method_50_code 17 = .ok (.iload 5, 2) := by decide +kernel
theorem d_Mod_asks_19 : decode prog_14_method_50_code 19 = .ok (.iaload, 1) := by decide +kernel
theorem d_Mod_asks_20 : decode prog_14_method_50_code 20 = .ok (.aload_n 0, 1) := by decide +kernel
theorem d_Mod_asks_21 : decode prog_14_method_50_code 21 = .ok (.getfield 88, 3) := by decide +kernel
theorem d_Mod_asks_24 : decode prog_14_method_50_code 24 = .ok (.iload 5, 2) := by decide +kernel
theorem d_Mod_asks_26 : decode prog_14_method_50_code 26 = .ok (.iaload, 1) := by decide +kernel
theorem d_Mod_asks_27 : decode prog_14_method_50_code 27 = .ok (.if_icmp .ge 11, 3) := by decide +kernel
theorem d_Mod_asks_30 : decode prog_14_method_50_code 30 = .ok (.aload_n 0, 1) := by decide +kernel
theorem d_Mod_asks_31 : decode prog_14_method_50_code 31 = .ok (.iload 5, 2) := by decide +kernel
theorem d_Mod_asks_33 : decode prog_14_method_50_code 33 = .ok (.invokevirtual 327, 3) := by decide +kernel
theorem d_Mod_asks_36 : decode prog_14_method_50_code 36 = .ok (.istore 6, 2) := by decide +kernel
theorem d_Mod_asks_38 : decode prog_14_method_50_code 38 = .ok (.iload 6, 2) := by decide +kernel
theorem d_Mod_asks_40 : decode prog_14_method_50_code 40 = .ok (.iload_n 3, 1) := by decide +kernel
theorem d_Mod_asks_41 : decode prog_14_method_50_code 41 = .ok (.iload 4, 2) := by decide +kernel
theorem d_Mod_asks_43 : decode prog_14_method_50_code 43 = .ok (.invokestatic 330, 3) := by decide +kernel
theorem d_Mod_asks_46 : decode prog_14_method_50_code 46 = .ok (.ireturn, 1) := by decide +kernel
theorem d_Mod_lawTells_0 : decode prog_14_method_51_code 0 = .ok (.aload_n 0, 1) := by decide +kernel
theorem d_Mod_lawTells_1 : decode prog_14_method_51_code 1 = .ok (.iconst 0, 1) := by decide +kernel
theorem d_Mod_lawTells_2 : decode prog_14_method_51_code 2 = .ok (.putfield 312, 3) := by decide +kernel
theorem d_Mod_lawTells_5 : decode prog_14_method_51_code 5 = .ok (.aload_n 0, 1) := by decide +kernel
theorem d_Mod_lawTells_6 : decode prog_14_method_51_code 6 = .ok (.getfield 85, 3) := by decide +kernel
theorem d_Mod_lawTells_9 : decode prog_14_method_51_code 9 = .ok (.iload_n 1, 1) := by decide +kernel
theorem d_Mod_lawTells_10 : decode prog_14_method_51_code 10 = .ok (.iaload, 1) := by decide +kernel
theorem d_Mod_lawTells_11 : decode prog_14_method_51_code 11 = .ok (.istore_n 2, 1) := by decide +kernel
theorem d_Mod_lawTells_12 : decode prog_14_method_51_code 12 = .ok (.iload_n 2, 1) := by decide +kernel
theorem d_Mod_lawTells_13 : decode prog_14_method_51_code 13 = .ok (.aload_n 0, 1) := by decide +kernel
theorem d_Mod_lawTells_14 : decode prog_14_method_51_code 14 = .ok (.getfield 88, 3) := by decide +kernel
theorem d_Mod_lawTells_17 : decode prog_14_method_51_code 17 = .ok (.iload_n 1, 1) := by decide +kernel
theorem d_Mod_lawTells_18 : decode prog_14_method_51_code 18 = .ok (.iaload, 1) := by decide +kernel
theorem d_Mod_lawTells_19 : decode prog_14_method_51_code 19 = .ok (.if_icmp .ge 101, 3) := by decide +kernel
theorem d_Mod_lawTells_22 : decode prog_14_method_51_code 22 = .ok (.aload_n 0, 1) := by decide +kernel
theorem d_Mod_lawTells_23 : decode prog_14_method_51_code 23 = .ok (.getfield 91, 3) := by decide +kernel
theorem d_Mod_lawTells_26 : decode prog_14_method_51_code 26 = .ok (.iload_n 2, 1) := by decide +kernel
theorem d_Mod_lawTells_27 : decode prog_14_method_51_code 27 = .ok (.baload, 1) := by decide +kernel
theorem d_Mod_lawTells_28 : decode prog_14_method_51_code 28 = .ok (.ifCond .eq 56, 3) := by decide +kernel
theorem d_Mod_lawTells_31 : decode prog_14_method_51_code 31 = .ok (.aload_n 0, 1) := by decide +kernel
theorem d_Mod_lawTells_32 : decode prog_14_method_51_code 32 = .ok (.aload_n 0, 1) := by decide +kernel
theorem d_Mod_lawTells_33 : decode prog_14_method_51_code 33 = .ok (.getfield 95, 3) := by decide +kernel
theorem d_Mod_lawTells_36 : decode prog_14_method_51_code 36 = .ok (.iload_n 2, 1) := by decide +kernel
theorem d_Mod_lawTells_37 : decode prog_14_method_51_code 37 = .ok (.iaload, 1) := by decide +kernel
theorem d_Mod_lawTells_38 : decode prog_14_method_51_code 38 = .ok (.aload_n 0, 1) := by decide +kernel
theorem d_Mod_lawTells_39 : decode prog_14_method_51_code 39 = .ok (.getfield 98, 3) := by decide +kernel
theorem d_Mod_lawTells_42 : decode prog_14_method_51_code 42 = .ok (.iload_n 2, 1) := by decide +kernel
theorem d_Mod_lawTells_43 : decode prog_14_method_51_code 43 = .ok (.iaload, 1) := by decide +kernel
theorem d_Mod_lawTells_44 : decode prog_14_method_51_code 44 = .ok (.invokevirtual 333, 3) := by decide +kernel
theorem d_Mod_lawTells_47 : decode prog_14_method_51_code 47 = .ok (.istore_n 3, 1) := by decide +kernel
theorem d_Mod_lawTells_48 : decode prog_14_method_51_code 48 = .ok (.aload_n 0, 1) := by decide +kernel
theorem d_Mod_lawTells_49 : decode prog_14_method_51_code 49 = .ok (.aload_n 0, 1) := by decide +kernel
theorem d_Mod_lawTells_50 : decode prog_14_method_51_code 50 = .ok (.getfield 98, 3) := by decide +kernel
theorem d_Mod_lawTells_53 : decode prog_14_method_51_code 53 = .ok (.iload_n 2, 1) := by decide +kernel
theorem d_Mod_lawTells_54 : decode prog_14_method_51_code 54 = .ok (.iaload, 1) := by decide +kernel
theorem d_Mod_lawTells_55 : decode prog_14_method_51_code 55 = .ok (.aload_n 0, 1) := by decide +kernel
theorem d_Mod_lawTells_56 : decode prog_14_method_51_code 56 = .ok (.getfield 101, 3) := by decide +kernel
theorem d_Mod_lawTells_59 : decode prog_14_method_51_code 59 = .ok (.iload_n 2, 1) := by decide +kernel
theorem d_Mod_lawTells_60 : decode prog_14_method_51_code 60 = .ok (.iaload, 1) := by decide +kernel
theorem d_Mod_lawTells_61 : decode prog_14_method_51_code 61 = .ok (.invokevirtual 333, 3) := by decide +kernel
theorem d_Mod_lawTells_64 : decode prog_14_method_51_code 64 = .ok (.istore 4, 2) := by decide +kernel
theorem d_Mod_lawTells_66 : decode prog_14_method_51_code 66 = .ok (.aload_n 0, 1) := by decide +kernel
theorem d_Mod_lawTells_67 : decode prog_14_method_51_code 67 = .ok (.getfield 312, 3) := by decide +kernel
theorem d_Mod_lawTells_70 : decode prog_14_method_51_code 70 = .ok (.ifCond .eq 5, 3) := by decide +kernel
theorem d_Mod_lawTells_73 : decode prog_14_method_51_code 73 = .ok (.iconst 0, 1) := by decide +kernel
theorem d_Mod_lawTells_74 : decode prog_14_method_51_code 74 = .ok (.ireturn, 1) := by decide +kernel
theorem d_Mod_lawTells_75 : decode prog_14_method_51_code 75 = .ok (.iload_n 3, 1) := by decide +kernel
theorem d_Mod_lawTells_76 : decode prog_14_method_51_code 76 = .ok (.iload 4, 2) := by decide +kernel
theorem d_Mod_lawTells_78 : decode prog_14_method_51_code 78 = .ok (.if_icmp .lt 6, 3) := by decide +kernel
theorem d_Mod_lawTells_81 : decode prog_14_method_51_code 81 = .ok (.goto 33, 3) := by decide +kernel
theorem d_Mod_lawTells_84 : decode prog_14_method_51_code 84 = .ok (.aload_n 0, 1) := by decide +kernel
theorem d_Mod_lawTells_85 : decode prog_14_method_51_code 85 = .ok (.aload_n 0, 1) := by decide +kernel
theorem d_Mod_lawTells_86 : decode prog_14_method_51_code 86 = .ok (.getfield 101, 3) := by decide +kernel
theorem d_Mod_lawTells_89 : decode prog_14_method_51_code 89 = .ok (.iload_n 2, 1) := by decide +kernel
theorem d_Mod_lawTells_90 : decode prog_14_method_51_code 90 = .ok (.iaload, 1) := by decide +kernel
theorem d_Mod_lawTells_91 : decode prog_14_method_51_code 91 = .ok (.aload_n 0, 1) := by decide +kernel
theorem d_Mod_lawTells_92 : decode prog_14_method_51_code 92 = .ok (.getfield 104, 3) := by decide +kernel
theorem d_Mod_lawTells_95 : decode prog_14_method_51_code 95 = .ok (.iload_n 2, 1) := by decide +kernel
theorem d_Mod_lawTells_96 : decode prog_14_method_51_code 96 = .ok (.iaload, 1) := by decide +kernel
theorem d_Mod_lawTells_97 : decode prog_14_method_51_code 97 = .ok (.invokevirtual 333, 3) := by decide +kernel
theorem d_Mod_lawTells_100 : decode prog_14_method_51_code 100 = .ok (.istore_n 3, 1) := by decide +kernel
theorem d_Mod_lawTells_101 : decode prog_14_method_51_code 101 = .ok (.aload_n 0, 1) := by decide +kernel
theorem d_Mod_lawTells_102 : decode prog_14_method_51_code 102 = .ok (.getfield 312, 3) := by decide +kernel
theorem d_Mod_lawTells_105 : decode prog_14_method_51_code 105 = .ok (.ifCond .eq 7, 3) := by decide +kernel
theorem d_Mod_lawTells_108 : decode prog_14_method_51_code 108 = .ok (.iconst 0, 1) := by decide +kernel
theorem d_Mod_lawTells_109 : decode prog_14_method_51_code 109 = .ok (.goto 4, 3) := by decide +kernel
theorem d_Mod_lawTells_112 : decode prog_14_method_51_code 112 = .ok (.iload_n 3, 1) := by decide +kernel
theorem d_Mod_lawTells_113 : decode prog_14_method_51_code 113 = .ok (.ireturn, 1) := by decide +kernel
theorem d_Mod_lawTells_114 : decode prog_14_method_51_code 114 = .ok (.iinc 2 1, 3) := by decide +kernel
theorem d_Mod_lawTells_117 : decode prog_14_method_51_code 117 = .ok (.goto (-105), 3) := by decide +kernel
theorem d_Mod_lawTells_120 : decode prog_14_method_51_code 120 = .ok (.iconst 0, 1) := by decide +kernel
theorem d_Mod_lawTells_121 : decode prog_14_method_51_code 121 = .ok (.ireturn, 1) := by decide +kernel
theorem d_Mod_fillsPot_0 : decode prog_14_method_52_code 0 = .ok (.iconst 0, 1) := by decide +kernel
theorem d_Mod_fillsPot_1 : decode prog_14_method_52_code 1 = .ok (.istore_n 2, 1) := by decide +kernel
theorem d_Mod_fillsPot_2 : decode prog_14_method_52_code 2 = .ok (.iload_n 2, 1) := by decide +kernel
theorem d_Mod_fillsPot_3 : decode prog_14_method_52_code 3 = .ok (.bipush 6, 2) := by decide +kernel
theorem d_Mod_fillsPot_5 : decode prog_14_method_52_code 5 = .ok (.if_icmp .ge 50, 3) := by decide +kernel
theorem d_Mod_fillsPot_8 : decode prog_14_method_52_code 8 = .ok (.aload_n 0, 1) := by decide +kernel
theorem d_Mod_fillsPot_9 : decode prog_14_method_52_code 9 = .ok (.getfield 128, 3) := by decide +kernel
theorem d_Mod_fillsPot_12 : decode prog_14_method_52_code 12 = .ok (.iload_n 2, 1) := by decide +kernel
theorem d_Mod_fillsPot_13 : decode prog_14_method_52_code 13 = .ok (.iload_n 2, 1) := by decide +kernel
theorem d_Mod_fillsPot_14 : decode prog_14_method_52_code 14 = .ok (.aload_n 0, 1) := by decide +kernel
theorem d_Mod_fillsPot_15 : decode prog_14_method_52_code 15 = .ok (.getfield 46, 3) := by decide +kernel
theorem d_Mod_fillsPot_18 : decode prog_14_method_52_code 18 = .ok (.aload_n 0, 1) := by decide +kernel
theorem d_Mod_fillsPot_19 : decode prog_14_method_52_code 19 = .ok (.getfield 236, 3) := by decide +kernel
theorem d_Mod_fillsPot_22 : decode prog_14_method_52_code 22 = .ok (.iaload, 1) := by decide +kernel
theorem d_Mod_fillsPot_23 : decode prog_14_method_52_code 23 = .ok (.if_icmp .ge 24, 3) := by decide +kernel
theorem d_Mod_fillsPot_26 : decode prog_14_method_52_code 26 = .ok (.aload_n 0, 1) := by decide +kernel
theorem d_Mod_fillsPot_27 : decode prog_14_method_52_code 27 = .ok (.getfield 64, 3) := by decide +kernel
theorem d_Mod_fillsPot_30 : decode prog_14_method_52_code 30 = .ok (.bipush 6, 2) := by decide +kernel
theorem d_Mod_fillsPot_32 : decode prog_14_method_52_code 32 = .ok (.iconst 5, 1) := by decide +kernel
theorem d_Mod_fillsPot_33 : decode prog_14_method_52_code 33 = .ok (.aload_n 0, 1) := by decide +kernel
theorem d_Mod_fillsPot_34 : decode prog_14_method_52_code 34 = .ok (.getfield 236, 3) := by decide +kernel
theorem d_Mod_fillsPot_37 : decode prog_14_method_52_code 37 = .ok (.imul, 1) := by decide +kernel
theorem d_Mod_fillsPot_38 : decode prog_14_method_52_code 38 = .ok (.iload_n 1, 1) := by decide +kernel
theorem d_Mod_fillsPot_39 : decode prog_14_method_52_code 39 = .ok (.iadd, 1) := by decide +kernel
theorem d_Mod_fillsPot_40 : decode prog_14_method_52_code 40 = .ok (.imul, 1) := by decide +kernel
theorem d_Mod_fillsPot_41 : decode prog_14_method_52_code 41 = .ok (.iload_n 2, 1) := by decide +kernel
theorem d_Mod_fillsPot_42 : decode prog_14_method_52_code 42 = .ok (.iadd, 1) := by decide +kernel
theorem d_Mod_fillsPot_43 : decode prog_14_method_52_code 43 = .ok (.iaload, 1) := by decide +kernel
theorem d_Mod_fillsPot_44 : decode prog_14_method_52_code 44 = .ok (.goto 4, 3) := by decide +kernel
theorem d_Mod_fillsPot_47 : decode prog_14_method_52_code 47 = .ok (.iconst 0, 1) := by decide +kernel
theorem d_Mod_fillsPot_48 : decode prog_14_method_52_code 48 = .ok (.iastore, 1) := by decide +kernel
theorem d_Mod_fillsPot_49 : decode prog_14_method_52_code 49 = .ok (.iinc 2 1, 3) := by decide +kernel
theorem d_Mod_fillsPot_52 : decode prog_14_method_52_code 52 = .ok (.goto (-50), 3) := by decide +kernel
theorem d_Mod_fillsPot_55 : decode prog_14_method_52_code 55 = .ok (.return_, 1) := by decide +kernel
theorem d_Mod_potMany_0 : decode prog_14_method_53_code 0 = .ok (.iconst 0, 1) := by decide +kernel
theorem d_Mod_potMany_1 : decode prog_14_method_53_code 1 = .ok (.istore_n 1, 1) := by decide +kernel
theorem d_Mod_potMany_2 : decode prog_14_method_53_code 2 = .ok (.iconst 0, 1) := by decide +kernel
theorem d_Mod_potMany_3 : decode prog_14_method_53_code 3 = .ok (.istore_n 2, 1) := by decide +kernel
theorem d_Mod_potMany_4 : decode prog_14_method_53_code 4 = .ok (.iload_n 2, 1) := by decide +kernel
theorem d_Mod_potMany_5 : decode prog_14_method_53_code 5 = .ok (.bipush 6, 2) := by decide +kernel
theorem d_Mod_potMany_7 : decode prog_14_method_53_code 7 = .ok (.if_icmp .ge 18, 3) := by decide +kernel
theorem d_Mod_potMany_10 : decode prog_14_method_53_code 10 = .ok (.iload_n 1, 1) := by decide +kernel
theorem d_Mod_potMany_11 : decode prog_14_method_53_code 11 = .ok (.aload_n 0, 1) := by decide +kernel
theorem d_Mod_potMany_12 : decode prog_14_method_53_code 12 = .ok (.getfield 128, 3) := by decide +kernel
theorem d_Mod_potMany_15 : decode prog_14_method_53_code 15 = .ok (.iload_n 2, 1) := by decide +kernel
theorem d_Mod_potMany_16 : decode prog_14_method_53_code 16 = .ok (.iaload, 1) := by decide +kernel
theorem d_Mod_potMany_17 : decode prog_14_method_53_code 17 = .ok (.iadd, 1) := by decide +kernel
theorem d_Mod_potMany_18 : decode prog_14_method_53_code 18 = .ok (.istore_n 1, 1) := by decide +kernel
theorem d_Mod_potMany_19 : decode prog_14_method_53_code 19 = .ok (.iinc 2 1, 3) := by decide +kernel
theorem d_Mod_potMany_22 : decode prog_14_method_53_code 22 = .ok (.goto (-18), 3) := by decide +kernel
theorem d_Mod_potMany_25 : decode prog_14_method_53_code 25 = .ok (.iload_n 1, 1) := by decide +kernel
theorem d_Mod_potMany_26 : decode prog_14_method_53_code 26 = .ok (.ireturn, 1) := by decide +kernel
theorem d_Mod_potPrice_0 : decode prog_14_method_54_code 0 = .ok (.iconst 0, 1) := by decide +kernel
theorem d_Mod_potPrice_1 : decode prog_14_method_54_code 1 = .ok (.istore_n 1, 1) := by decide +kernel
theorem d_Mod_potPrice_2 : decode prog_14_method_54_code 2 = .ok (.iconst 0, 1) := by decide +kernel
theorem d_Mod_potPrice_3 : decode prog_14_method_54_code 3 = .ok (.istore_n 2, 1) := by decide +kernel
theorem d_Mod_potPrice_4 : decode prog_14_method_54_code 4 = .ok (.iload_n 2, 1) := by decide +kernel
theorem d_Mod_potPrice_5 : decode prog_14_method_54_code 5 = .ok (.aload_n 0, 1) := by decide +kernel
theorem d_Mod_potPrice_6 : decode prog_14_method_54_code 6 = .ok (.getfield 46, 3) := by decide +kernel
theorem d_Mod_potPrice_9 : decode prog_14_method_54_code 9 = .ok (.aload_n 0, 1) := by decide +kernel
theorem d_Mod_potPrice_10 : decode prog_14_method_54_code 10 = .ok (.getfield 236, 3) := by decide +kernel
theorem d_Mod_potPrice_13 : decode prog_14_method_54_code 13 = .ok (.iaload, 1) := by decide +kernel
theorem d_Mod_potPrice_14 : decode prog_14_method_54_code 14 = .ok (.if_icmp .ge 33, 3) := by decide +kernel
theorem d_Mod_potPrice_17 : decode prog_14_method_54_code 17 = .ok (.iload_n 1, 1) := by decide +kernel
theorem d_Mod_potPrice_18 : decode prog_14_method_54_code 18 = .ok (.aload_n 0, 1) := by decide +kernel
theorem d_Mod_potPrice_19 : decode prog_14_method_54_code 19 = .ok (.getfield 128, 3) := by decide +kernel
theorem d_Mod_potPrice_22 : decode prog_14_method_54_code 22 = .ok (.iload_n 2, 1) := by decide +kernel
theorem d_Mod_potPrice_23 : decode prog_14_method_54_code 23 = .ok (.iaload, 1) := by decide +kernel
theorem d_Mod_potPrice_24 : decode prog_14_method_54_code 24 = .ok (.aload_n 0, 1) := by decide +kernel
theorem d_Mod_potPrice_25 : decode prog_14_method_54_code 25 = .ok (.getfield 52, 3) := by decide +kernel
theorem d_Mod_potPrice_28 : decode prog_14_method_54_code 28 = .ok (.bipush 6, 2) := by decide +kernel
theorem d_Mod_potPrice_30 : decode prog_14_method_54_code 30 = .ok (.aload_n 0, 1) := by decide +kernel
theorem d_Mod_potPrice_31 : decode prog_14_method_54_code 31 = .ok (.getfield 236, 3) := by decide +kernel
theorem d_Mod_potPrice_34 : decode prog_14_method_54_code 34 = .ok (.imul, 1) := by decide +kernel
theorem d_Mod_potPrice_35 : decode prog_14_method_54_code 35 = .ok (.iload_n 2, 1) := by decide +kernel
theorem d_Mod_potPrice_36 : decode prog_14_method_54_code 36 = .ok (.iadd, 1) := by decide +kernel
theorem d_Mod_potPrice_37 : decode prog_14_method_54_code 37 = .ok (.iaload, 1) := by decide +kernel
theorem d_Mod_potPrice_38 : decode prog_14_method_54_code 38 = .ok (.imul, 1) := by decide +kernel
theorem d_Mod_potPrice_39 : decode prog_14_method_54_code 39 = .ok (.iadd, 1) := by decide +kernel
theorem d_Mod_potPrice_40 : decode prog_14_method_54_code 40 = .ok (.istore_n 1, 1) := by decide +kernel
theorem d_Mod_potPrice_41 : decode prog_14_method_54_code 41 = .ok (.iinc 2 1, 3) := by decide +kernel
theorem d_Mod_potPrice_44 : decode prog_14_method_54_code 44 = .ok (.goto (-40), 3) := by decide +kernel
theorem d_Mod_potPrice_47 : decode prog_14_method_54_code 47 = .ok (.iload_n 1, 1) := by decide +kernel
theorem d_Mod_potPrice_48 : decode prog_14_method_54_code 48 = .ok (.ireturn, 1) := by decide +kernel
theorem d_Mod_forceBy_0 : decode prog_14_method_55_code 0 = .ok (.iconst 0, 1) := by decide +kernel
theorem d_Mod_forceBy_1 : decode prog_14_method_55_code 1 = .ok (.istore_n 3, 1) := by decide +kernel
theorem d_Mod_forceBy_2 : decode prog_14_method_55_code 2 = .ok (.iconst 0, 1) := by decide +kernel
theorem d_Mod_forceBy_3 : decode prog_14_method_55_code 3 = .ok (.istore 4, 2) := by decide +kernel
theorem d_Mod_forceBy_5 : decode prog_14_method_55_code 5 = .ok (.iload 4, 2) := by decide +kernel
theorem d_Mod_forceBy_7 : decode prog_14_method_55_code 7 = .ok (.aload_n 0, 1) := by decide +kernel
theorem d_Mod_forceBy_8 : decode prog_14_method_55_code 8 = .ok (.getfield 46, 3) := by decide +kernel
theorem d_Mod_forceBy_11 : decode prog_14_method_55_code 11 = .ok (.aload_n 0, 1) := by decide +kernel
theorem d_Mod_forceBy_12 : decode prog_14_method_55_code 12 = .ok (.getfield 236, 3) := by decide +kernel
theorem d_Mod_forceBy_15 : decode prog_14_method_55_code 15 = .ok (.iaload, 1) := by decide +kernel
theorem d_Mod_forceBy_16 : decode prog_14_method_55_code 16 = .ok (.if_icmp .ge 39, 3) := by decide +kernel
theorem d_Mod_forceBy_19 : decode prog_14_method_55_code 19 = .ok (.iload_n 3, 1) := by decide +kernel
theorem d_Mod_forceBy_20 : decode prog_14_method_55_code 20 = .ok (.aload_n 0, 1) := by decide +kernel
theorem d_Mod_forceBy_21 : decode prog_14_method_55_code 21 = .ok (.getfield 128, 3) := by decide +kernel
theorem d_Mod_forceBy_24 : decode prog_14_method_55_code 24 = .ok (.iload 4, 2) := by decide +kernel
theorem d_Mod_forceBy_26 : decode prog_14_method_55_code 26 = .ok (.iaload, 1) := by decide +kernel
theorem d_Mod_forceBy_27 : decode prog_14_method_55_code 27 = .ok (.aload_n 0, 1) := by decide +kernel
theorem d_Mod_forceBy_28 : decode prog_14_method_55_code 28 = .ok (.getfield 55, 3) := by decide +kernel
theorem d_Mod_forceBy_31 : decode prog_14_method_55_code 31 = .ok (.iconst 3, 1) := by decide +kernel
theorem d_Mod_forceBy_32 : decode prog_14_method_55_code 32 = .ok (.bipush 6, 2) := by decide +kernel
theorem d_Mod_forceBy_34 : decode prog_14_method_55_code 34 = .ok (.aload_n 0, 1) := by decide +kernel
theorem d_Mod_forceBy_35 : decode prog_14_method_55_code 35 = .ok (.getfield 236, 3) := by decide +kernel
theorem d_Mod_forceBy_38 : decode prog_14_method_55_code 38 = .ok (.imul, 1) := by decide +kernel
theorem d_Mod_forceBy_39 : decode prog_14_method_55_code 39 = .ok (.iload 4, 2) := by decide +kernel
theorem d_Mod_forceBy_41 : decode prog_14_method_55_code 41 = .ok (.iadd, 1) := by decide +kernel
theorem d_Mod_forceBy_42 : decode prog_14_method_55_code 42 = .ok (.imul, 1) := by decide +kernel
theorem d_Mod_forceBy_43 : decode prog_14_method_55_code 43 = .ok (.iload_n 1, 1) := by decide +kernel
theorem d_Mod_forceBy_44 : decode prog_14_method_55_code 44 = .ok (.iadd, 1) := by decide +kernel
theorem d_Mod_forceBy_45 : decode prog_14_method_55_code 45 = .ok (.iaload, 1) := by decide +kernel
theorem d_Mod_forceBy_46 : decode prog_14_method_55_code 46 = .ok (.imul, 1) := by decide +kernel
theorem d_Mod_forceBy_47 : decode prog_14_method_55_code 47 = .ok (.iadd, 1) := by decide +kernel
theorem d_Mod_forceBy_48 : decode prog_14_method_55_code 48 = .ok (.istore_n 3, 1) := by decide +kernel
theorem d_Mod_forceBy_49 : decode prog_14_method_55_code 49 = .ok (.iinc 4 1, 3) := by decide +kernel
theorem d_Mod_forceBy_52 : decode prog_14_method_55_code 52 = .ok (.goto (-47), 3) := by decide +kernel
theorem d_Mod_forceBy_55 : decode prog_14_method_55_code 55 = .ok (.aload_n 0, 1) := by decide +kernel
theorem d_Mod_forceBy_56 : decode prog_14_method_55_code 56 = .ok (.invokevirtual 336, 3) := by decide +kernel
theorem d_Mod_forceBy_59 : decode prog_14_method_55_code 59 = .ok (.aload_n 0, 1) := by decide +kernel
theorem d_Mod_forceBy_60 : decode prog_14_method_55_code 60 = .ok (.getfield 116, 3) := by decide +kernel
theorem d_Mod_forceBy_63 : decode prog_14_method_55_code 63 = .ok (.iconst 0, 1) := by decide +kernel
theorem d_Mod_forceBy_64 : decode prog_14_method_55_code 64 = .ok (.iload_n 3, 1) := by decide +kernel
theorem d_Mod_forceBy_65 : decode prog_14_method_55_code 65 = .ok (.iastore, 1) := by decide +kernel
theorem d_Mod_forceBy_66 : decode prog_14_method_55_code 66 = .ok (.aload_n 0, 1) := by decide +kernel
theorem d_Mod_forceBy_67 : decode prog_14_method_55_code 67 = .ok (.getfield 116, 3) := by decide +kernel
theorem d_Mod_forceBy_70 : decode prog_14_method_55_code 70 = .ok (.iconst 1, 1) := by decide +kernel
theorem d_Mod_forceBy_71 : decode prog_14_method_55_code 71 = .ok (.iload_n 2, 1) := by decide +kernel
theorem d_Mod_forceBy_72 : decode prog_14_method_55_code 72 = .ok (.iastore, 1) := by decide +kernel
theorem d_Mod_forceBy_73 : decode prog_14_method_55_code 73 = .ok (.aload_n 0, 1) := by decide +kernel
theorem d_Mod_forceBy_74 : decode prog_14_method_55_code 74 = .ok (.getfield 116, 3) := by decide +kernel
theorem d_Mod_forceBy_77 : decode prog_14_method_55_code 77 = .ok (.iconst 2, 1) := by decide +kernel
theorem d_Mod_forceBy_78 : decode prog_14_method_55_code 78 = .ok (.iload_n 1, 1) := by decide +kernel
theorem d_Mod_forceBy_79 : decode prog_14_method_55_code 79 = .ok (.iastore, 1) := by decide +kernel
theorem d_Mod_forceBy_80 : decode prog_14_method_55_code 80 = .ok (.aload_n 0, 1) := by decide +kernel
theorem d_Mod_forceBy_81 : decode prog_14_method_55_code 81 = .ok (.getfield 116, 3) := by decide +kernel
theorem d_Mod_forceBy_84 : decode prog_14_method_55_code 84 = .ok (.iconst 3, 1) := by decide +kernel
theorem d_Mod_forceBy_85 : decode prog_14_method_55_code 85 = .ok (.aload_n 0, 1) := by decide +kernel
theorem d_Mod_forceBy_86 : decode prog_14_method_55_code 86 = .ok (.invokevirtual 339, 3) := by decide +kernel
theorem d_Mod_forceBy_89 : decode prog_14_method_55_code 89 = .ok (.iastore, 1) := by decide +kernel
theorem d_Mod_forceBy_90 : decode prog_14_method_55_code 90 = .ok (.aload_n 0, 1) := by decide +kernel
theorem d_Mod_forceBy_91 : decode prog_14_method_55_code 91 = .ok (.iconst 0, 1) := by decide +kernel
theorem d_Mod_forceBy_92 : decode prog_14_method_55_code 92 = .ok (.iload_n 3, 1) := by decide +kernel
theorem d_Mod_forceBy_93 : decode prog_14_method_55_code 93 = .ok (.iconst 0, 1) := by decide +kernel
theorem d_Mod_forceBy_94 : decode prog_14_method_55_code 94 = .ok (.bipush 99, 2) := by decide +kernel
theorem d_Mod_forceBy_96 : decode prog_14_method_55_code 96 = .ok (.invokevirtual 342, 3) := by decide +kernel
theorem d_Mod_forceBy_99 : decode prog_14_method_55_code 99 = .ok (.ireturn, 1) := by decide +kernel
theorem d_Mod_boundBy_0 : decode prog_14_method_56_code 0 = .ok (.aload_n 0, 1) := by decide +kernel
theorem d_Mod_boundBy_1 : decode prog_14_method_56_code 1 = .ok (.invokevirtual 336, 3) := by decide +kernel
theorem d_Mod_boundBy_4 : decode prog_14_method_56_code 4 = .ok (.aload_n 0, 1) := by decide +kernel
theorem d_Mod_boundBy_5 : decode prog_14_method_56_code 5 = .ok (.getfield 116, 3) := by decide +kernel
theorem d_Mod_boundBy_8 : decode prog_14_method_56_code 8 = .ok (.iconst 0, 1) := by decide +kernel
theorem d_Mod_boundBy_9 : decode prog_14_method_56_code 9 = .ok (.iload_n 3, 1) := by decide +kernel
theorem d_Mod_boundBy_10 : decode prog_14_method_56_code 10 = .ok (.iastore, 1) := by decide +kernel
theorem d_Mod_boundBy_11 : decode prog_14_method_56_code 11 = .ok (.aload_n 0, 1) := by decide +kernel
theorem d_Mod_boundBy_12 : decode prog_14_method_56_code 12 = .ok (.getfield 116, 3) := by decide +kernel
theorem d_Mod_boundBy_15 : decode prog_14_method_56_code 15 = .ok (.iconst 2, 1) := by decide +kernel
theorem d_Mod_boundBy_16 : decode prog_14_method_56_code 16 = .ok (.iload_n 2, 1) := by decide +kernel
theorem d_Mod_boundBy_17 : decode prog_14_method_56_code 17 = .ok (.iastore, 1) := by decide +kernel
theorem d_Mod_boundBy_18 : decode prog_14_method_56_code 18 = .ok (.aload_n 0, 1) := by decide +kernel
theorem d_Mod_boundBy_19 : decode prog_14_method_56_code 19 = .ok (.getfield 116, 3) := by decide +kernel
theorem d_Mod_boundBy_22 : decode prog_14_method_56_code 22 = .ok (.iconst 5, 1) := by decide +kernel
theorem d_Mod_boundBy_23 : decode prog_14_method_56_code 23 = .ok (.aload_n 0, 1) := by decide +kernel
theorem d_Mod_boundBy_24 : decode prog_14_method_56_code 24 = .ok (.getfield 70, 3) := by decide +kernel
theorem d_Mod_boundBy_27 : decode prog_14_method_56_code 27 = .ok (.iconst 4, 1) := by decide +kernel
theorem d_Mod_boundBy_28 : decode prog_14_method_56_code 28 = .ok (.aload_n 0, 1) := by decide +kernel
theorem d_Mod_boundBy_29 : decode prog_14_method_56_code 29 = .ok (.getfield 236, 3) := by decide +kernel
theorem d_Mod_boundBy_32 : decode prog_14_method_56_code 32 = .ok (.imul, 1) := by decide +kernel
theorem d_Mod_boundBy_33 : decode prog_14_method_56_code 33 = .ok (.iload_n 1, 1) := by decide +kernel
theorem d_Mod_boundBy_34 : decode prog_14_method_56_code 34 = .ok (.iadd, 1) := by decide +kernel
theorem d_Mod_boundBy_35 : decode prog_14_method_56_code 35 = .ok (.iaload, 1) := by decide +kernel
theorem d_Mod_boundBy_36 : decode prog_14_method_56_code 36 = .ok (.iastore, 1) := by decide +kernel
theorem d_Mod_boundBy_37 : decode prog_14_method_56_code 37 = .ok (.aload_n 0, 1) := by decide +kernel
theorem d_Mod_boundBy_38 : decode prog_14_method_56_code 38 = .ok (.getfield 116, 3) := by decide +kernel
theorem d_Mod_boundBy_41 : decode prog_14_method_56_code 41 = .ok (.bipush 6, 2) := by decide +kernel
theorem d_Mod_boundBy_43 : decode prog_14_method_56_code 43 = .ok (.iload 4, 2) := by decide +kernel
theorem d_Mod_boundBy_45 : decode prog_14_method_56_code 45 = .ok (.iastore, 1) := by decide +kernel
theorem d_Mod_boundBy_46 : decode prog_14_method_56_code 46 = .ok (.aload_n 0, 1) := by decide +kernel
theorem d_Mod_boundBy_47 : decode prog_14_method_56_code 47 = .ok (.iconst 1, 1) := by decide +kernel
theorem d_Mod_boundBy_48 : decode prog_14_method_56_code 48 = .ok (.iload_n 3, 1) := by decide +kernel
theorem d_Mod_boundBy_49 : decode prog_14_method_56_code 49 = .ok (.iload 4, 2) := by decide +kernel
theorem d_Mod_boundBy_51 : decode prog_14_method_56_code 51 = .ok (.isub, 1) := by decide +kernel
theorem d_Mod_boundBy_52 : decode prog_14_method_56_code 52 = .ok (.iconst 0, 1) := by decide +kernel
theorem d_Mod_boundBy_53 : decode prog_14_method_56_code 53 = .ok (.bipush 99, 2) := by decide +kernel
theorem d_Mod_boundBy_55 : decode prog_14_method_56_code 55 = .ok (.invokevirtual 342, 3) := by decide +kernel
theorem d_Mod_boundBy_58 : decode prog_14_method_56_code 58 = .ok (.ireturn, 1) := by decide +kernel
theorem d_Mod_boundNow_0 : decode prog_14_method_57_code 0 = .ok (.aload_n 0, 1) := by decide +kernel
theorem d_Mod_boundNow_1 : decode prog_14_method_57_code 1 = .ok (.getfield 125, 3) := by decide +kernel
theorem d_Mod_boundNow_4 : decode prog_14_method_57_code 4 = .ok (.bipush 15, 2) := by decide +kernel
theorem d_Mod_boundNow_6 : decode prog_14_method_57_code 6 = .ok (.iload_n 1, 1) := by decide +kernel
theorem d_Mod_boundNow_7 : decode prog_14_method_57_code 7 = .ok (.iadd, 1) := by decide +kernel
theorem d_Mod_boundNow_8 : decode prog_14_method_57_code 8 = .ok (.iaload, 1) := by decide +kernel
theorem d_Mod_boundNow_9 : decode prog_14_method_57_code 9 = .ok (.ifCond .ge 7, 3) := by decide +kernel
theorem d_Mod_boundNow_12 : decode prog_14_method_57_code 12 = .ok (.iconst 0, 1) := by decide +kernel
theorem d_Mod_boundNow_13 : decode prog_14_method_57_code 13 = .ok (.goto 39, 3) := by decide +kernel
theorem d_Mod_boundNow_16 : decode prog_14_method_57_code 16 = .ok (.aload_n 0, 1) := by decide +kernel
theorem d_Mod_boundNow_17 : decode prog_14_method_57_code 17 = .ok (.iload_n 1, 1) := by decide +kernel
theorem d_Mod_boundNow_18 : decode prog_14_method_57_code 18 = .ok (.iload_n 2, 1) := by decide +kernel
theorem d_Mod_boundNow_19 : decode prog_14_method_57_code 19 = .ok (.aload_n 0, 1) := by decide +kernel
theorem d_Mod_boundNow_20 : decode prog_14_method_57_code 20 = .ok (.getfield 125, 3) := by decide +kernel
theorem d_Mod_boundNow_23 : decode prog_14_method_57_code 23 = .ok (.bipush 19, 2) := by decide +kernel
theorem d_Mod_boundNow_25 : decode prog_14_method_57_code 25 = .ok (.iconst 3, 1) := by decide +kernel
theorem d_Mod_boundNow_26 : decode prog_14_method_57_code 26 = .ok (.iload_n 1, 1) := by decide +kernel
theorem d_Mod_boundNow_27 : decode prog_14_method_57_code 27 = .ok (.imul, 1) := by decide +kernel
theorem d_Mod_boundNow_28 : decode prog_14_method_57_code 28 = .ok (.iadd, 1) := by decide +kernel
theorem d_Mod_boundNow_29 : decode prog_14_method_57_code 29 = .ok (.iload_n 2, 1) := by decide +kernel
theorem d_Mod_boundNow_30 : decode prog_14_method_57_code 30 = .ok (.iadd, 1) := by decide +kernel
theorem d_Mod_boundNow_31 : decode prog_14_method_57_code 31 = .ok (.iaload, 1) := by decide +kernel
theorem d_Mod_boundNow_32 : decode prog_14_method_57_code 32 = .ok (.aload_n 0, 1) := by decide +kernel
theorem d_Mod_boundNow_33 : decode prog_14_method_57_code 33 = .ok (.getfield 125, 3) := by decide +kernel
theorem d_Mod_boundNow_36 : decode prog_14_method_57_code 36 = .ok (.bipush 35, 2) := by decide +kernel
theorem d_Mod_boundNow_38 : decode prog_14_method_57_code 38 = .ok (.iaload, 1) := by decide +kernel
theorem d_Mod_boundNow_39 : decode prog_14_method_57_code 39 = .ok (.aload_n 0, 1) := by decide +kernel
theorem d_Mod_boundNow_40 : decode prog_14_method_57_code 40 = .ok (.getfield 125, 3) := by decide +kernel
theorem d_Mod_boundNow_43 : decode prog_14_method_57_code 43 = .ok (.bipush 15, 2) := by decide +kernel
theorem d_Mod_boundNow_45 : decode prog_14_method_57_code 45 = .ok (.iload_n 1, 1) := by decide +kernel
theorem d_Mod_boundNow_46 : decode prog_14_method_57_code 46 = .ok (.iadd, 1) := by decide +kernel
theorem d_Mod_boundNow_47 : decode prog_14_method_57_code 47 = .ok (.iaload, 1) := by decide +kernel
theorem d_Mod_boundNow_48 : decode prog_14_method_57_code 48 = .ok (.isub, 1) := by decide +kernel
theorem d_Mod_boundNow_49 : decode prog_14_method_57_code 49 = .ok (.invokevirtual 346, 3) := by decide +kernel
theorem d_Mod_boundNow_52 : decode prog_14_method_57_code 52 = .ok (.ireturn, 1) := by decide +kernel
theorem d_Mod_isFree_0 : decode prog_14_method_58_code 0 = .ok (.aload_n 0, 1) := by decide +kernel
theorem d_Mod_isFree_1 : decode prog_14_method_58_code 1 = .ok (.iload_n 1, 1) := by decide +kernel
theorem d_Mod_isFree_2 : decode prog_14_method_58_code 2 = .ok (.aload_n 0, 1) := by decide +kernel
theorem d_Mod_isFree_3 : decode prog_14_method_58_code 3 = .ok (.getfield 76, 3) := by decide +kernel
theorem d_Mod_isFree_6 : decode prog_14_method_58_code 6 = .ok (.bipush 6, 2) := by decide +kernel
theorem d_Mod_isFree_8 : decode prog_14_method_58_code 8 = .ok (.aload_n 0, 1) := by decide +kernel
theorem d_Mod_isFree_9 : decode prog_14_method_58_code 9 = .ok (.getfield 236, 3) := by decide +kernel
theorem d_Mod_isFree_12 : decode prog_14_method_58_code 12 = .ok (.imul, 1) := by decide +kernel
theorem d_Mod_isFree_13 : decode prog_14_method_58_code 13 = .ok (.iload_n 2, 1) := by decide +kernel
theorem d_Mod_isFree_14 : decode prog_14_method_58_code 14 = .ok (.iadd, 1) := by decide +kernel
theorem d_Mod_isFree_15 : decode prog_14_method_58_code 15 = .ok (.iaload, 1) := by decide +kernel
theorem d_Mod_isFree_16 : decode prog_14_method_58_code 16 = .ok (.invokevirtual 349, 3) := by decide +kernel
theorem d_Mod_isFree_19 : decode prog_14_method_58_code 19 = .ok (.aload_n 0, 1) := by decide +kernel
theorem d_Mod_isFree_20 : decode prog_14_method_58_code 20 = .ok (.getfield 79, 3) := by decide +kernel
theorem d_Mod_isFree_23 : decode prog_14_method_58_code 23 = .ok (.bipush 6, 2) := by decide +kernel
theorem d_Mod_isFree_25 : decode prog_14_method_58_code 25 = .ok (.aload_n 0, 1) := by decide +kernel
theorem d_Mod_isFree_26 : decode prog_14_method_58_code 26 = .ok (.getfield 236, 3) := by decide +kernel
theorem d_Mod_isFree_29 : decode prog_14_method_58_code 29 = .ok (.imul, 1) := by decide +kernel
theorem d_Mod_isFree_30 : decode prog_14_method_58_code 30 = .ok (.iload_n 2, 1) := by decide +kernel
theorem d_Mod_isFree_31 : decode prog_14_method_58_code 31 = .ok (.iadd, 1) := by decide +kernel
theorem d_Mod_isFree_32 : decode prog_14_method_58_code 32 = .ok (.iaload, 1) := by decide +kernel
theorem d_Mod_isFree_33 : decode prog_14_method_58_code 33 = .ok (.if_icmp .ge 7, 3) := by decide +kernel
theorem d_Mod_isFree_36 : decode prog_14_method_58_code 36 = .ok (.iconst 1, 1) := by decide +kernel
theorem d_Mod_isFree_37 : decode prog_14_method_58_code 37 = .ok (.goto 4, 3) := by decide +kernel
theorem d_Mod_isFree_40 : decode prog_14_method_58_code 40 = .ok (.iconst 0, 1) := by decide +kernel
theorem d_Mod_isFree_41 : decode prog_14_method_58_code 41 = .ok (.ireturn, 1) := by decide +kernel
theorem d_Mod_freeBits_0 : decode prog_14_method_59_code 0 = .ok (.iconst 0, 1) := by decide +kernel
theorem d_Mod_freeBits_1 : decode prog_14_method_59_code 1 = .ok (.istore_n 2, 1) := by decide +kernel
theorem d_Mod_freeBits_2 : decode prog_14_method_59_code 2 = .ok (.iconst 0, 1) := by decide +kernel
theorem d_Mod_freeBits_3 : decode prog_14_method_59_code 3 = .ok (.istore_n 3, 1) := by decide +kernel
theorem d_Mod_freeBits_4 : decode prog_14_method_59_code 4 = .ok (.iload_n 3, 1) := by decide +kernel
theorem d_Mod_freeBits_5 : decode prog_14_method_59_code 5 = .ok (.aload_n 0, 1) := by decide +kernel
theorem d_Mod_freeBits_6 : decode prog_14_method_59_code 6 = .ok (.getfield 73, 3) := by decide +kernel
theorem d_Mod_freeBits_9 : decode prog_14_method_59_code 9 = .ok (.aload_n 0, 1) := by decide +kernel
theorem d_Mod_freeBits_10 : decode prog_14_method_59_code 10 = .ok (.getfield 236, 3) := by decide +kernel
theorem d_Mod_freeBits_13 : decode prog_14_method_59_code 13 = .ok (.iaload, 1) := by decide +kernel
theorem d_Mod_freeBits_14 : decode prog_14_method_59_code 14 = .ok (.if_icmp .ge 24, 3) := by decide +kernel
theorem d_Mod_freeBits_17 : decode prog_14_method_59_code 17 = .ok (.aload_n 0, 1) := by decide +kernel
theorem d_Mod_freeBits_18 : decode prog_14_method_59_code 18 = .ok (.iload_n 1, 1) := by decide +kernel
theorem d_Mod_freeBits_19 : decode prog_14_method_59_code 19 = .ok (.iload_n 3, 1) := by decide +kernel
theorem d_Mod_freeBits_20 : decode prog_14_method_59_code 20 = .ok (.invokevirtual 352, 3) := by decide +kernel
theorem d_Mod_freeBits_23 : decode prog_14_method_59_code 23 = .ok (.ifCond .eq 9, 3) := by decide +kernel
theorem d_Mod_freeBits_26 : decode prog_14_method_59_code 26 = .ok (.iload_n 2, 1) := by decide +kernel
theorem d_Mod_freeBits_27 : decode prog_14_method_59_code 27 = .ok (.iconst 1, 1) := by decide +kernel
theorem d_Mod_freeBits_28 : decode prog_14_method_59_code 28 = .ok (.iload_n 3, 1) := by decide +kernel
theorem d_Mod_freeBits_29 : decode prog_14_method_59_code 29 = .ok (.ishl, 1) := by decide +kernel
theorem d_Mod_freeBits_30 : decode prog_14_method_59_code 30 = .ok (.ior, 1) := by decide +kernel
theorem d_Mod_freeBits_31 : decode prog_14_method_59_code 31 = .ok (.istore_n 2, 1) := by decide +kernel
theorem d_Mod_freeBits_32 : decode prog_14_method_59_code 32 = .ok (.iinc 3 1, 3) := by decide +kernel
theorem d_Mod_freeBits_35 : decode prog_14_method_59_code 35 = .ok (.goto (-31), 3) := by decide +kernel
theorem d_Mod_freeBits_38 : decode prog_14_method_59_code 38 = .ok (.iload_n 2, 1) := by decide +kernel
theorem d_Mod_freeBits_39 : decode prog_14_method_59_code 39 = .ok (.ireturn, 1) := by decide +kernel
theorem d_Mod_eatsDish_0 : decode prog_14_method_60_code 0 = .ok (.aload_n 0, 1) := by decide +kernel
theorem d_Mod_eatsDish_1 : decode prog_14_method_60_code 1 = .ok (.iload_n 2, 1) := by decide +kernel
theorem d_Mod_eatsDish_2 : decode prog_14_method_60_code 2 = .ok (.invokevirtual 356, 3) := by decide +kernel
theorem d_Mod_eatsDish_5 : decode prog_14_method_60_code 5 = .ok (.aload_n 0, 1) := by decide +kernel
theorem d_Mod_eatsDish_6 : decode prog_14_method_60_code 6 = .ok (.getfield 125, 3) := by decide +kernel
theorem d_Mod_eatsDish_9 : decode prog_14_method_60_code 9 = .ok (.bipush 15, 2) := by decide +kernel
theorem d_Mod_eatsDish_11 : decode prog_14_method_60_code 11 = .ok (.iload_n 1, 1) := by decide +kernel
theorem d_Mod_eatsDish_12 : decode prog_14_method_60_code 12 = .ok (.iadd, 1) := by decide +kernel
theorem d_Mod_eatsDish_13 : decode prog_14_method_60_code 13 = .ok (.aload_n 0, 1) := by decide +kernel
theorem d_Mod_eatsDish_14 : decode prog_14_method_60_code 14 = .ok (.getfield 125, 3) := by decide +kernel
theorem d_Mod_eatsDish_17 : decode prog_14_method_60_code 17 = .ok (.bipush 35, 2) := by decide +kernel
theorem d_Mod_eatsDish_19 : decode prog_14_method_60_code 19 = .ok (.iaload, 1) := by decide +kernel
theorem d_Mod_eatsDish_20 : decode prog_14_method_60_code 20 = .ok (.iastore, 1) := by decide +kernel
theorem d_Mod_eatsDish_21 : decode prog_14_method_60_code 21 = .ok (.iconst 0, 1) := by decide +kernel
theorem d_Mod_eatsDish_22 : decode prog_14_method_60_code 22 = .ok (.istore_n 3, 1) := by decide +kernel
theorem d_Mod_eatsDish_23 : decode prog_14_method_60_code 23 = .ok (.iload_n 3, 1) := by decide +kernel
theorem d_Mod_eatsDish_24 : decode prog_14_method_60_code 24 = .ok (.iconst 3, 1) := by decide +kernel
theorem d_Mod_eatsDish_25 : decode prog_14_method_60_code 25 = .ok (.if_icmp .ge 40, 3) := by decide +kernel
theorem d_Mod_eatsDish_28 : decode prog_14_method_60_code 28 = .ok (.aload_n 0, 1) := by decide +kernel
theorem d_Mod_eatsDish_29 : decode prog_14_method_60_code 29 = .ok (.getfield 125, 3) := by decide +kernel
theorem d_Mod_eatsDish_32 : decode prog_14_method_60_code 32 = .ok (.bipush 19, 2) := by decide +kernel
theorem d_Mod_eatsDish_34 : decode prog_14_method_60_code 34 = .ok (.iconst 3, 1) := by decide +kernel
theorem d_Mod_eatsDish_35 : decode prog_14_method_60_code 35 = .ok (.iload_n 1, 1) := by decide +kernel
theorem d_Mod_eatsDish_36 : decode prog_14_method_60_code 36 = .ok (.imul, 1) := by decide +kernel
theorem d_Mod_eatsDish_37 : decode prog_14_method_60_code 37 = .ok (.iadd, 1) := by decide +kernel
theorem d_Mod_eatsDish_38 : decode prog_14_method_60_code 38 = .ok (.iload_n 3, 1) := by decide +kernel
theorem d_Mod_eatsDish_39 : decode prog_14_method_60_code 39 = .ok (.iadd, 1) := by decide +kernel
theorem d_Mod_eatsDish_40 : decode prog_14_method_60_code 40 = .ok (.aload_n 0, 1) := by decide +kernel
theorem d_Mod_eatsDish_41 : decode prog_14_method_60_code 41 = .ok (.iload_n 3, 1) := by decide +kernel
theorem d_Mod_eatsDish_42 : decode prog_14_method_60_code 42 = .ok (.aload_n 0, 1) := by decide +kernel
theorem d_Mod_eatsDish_43 : decode prog_14_method_60_code 43 = .ok (.getfield 61, 3) := by decide +kernel
theorem d_Mod_eatsDish_46 : decode prog_14_method_60_code 46 = .ok (.iconst 5, 1) := by decide +kernel
theorem d_Mod_eatsDish_47 : decode prog_14_method_60_code 47 = .ok (.aload_n 0, 1) := by decide +kernel
theorem d_Mod_eatsDish_48 : decode prog_14_method_60_code 48 = .ok (.getfield 236, 3) := by decide +kernel
theorem d_Mod_eatsDish_51 : decode prog_14_method_60_code 51 = .ok (.imul, 1) := by decide +kernel
theorem d_Mod_eatsDish_52 : decode prog_14_method_60_code 52 = .ok (.iload_n 2, 1) := by decide +kernel
theorem d_Mod_eatsDish_53 : decode prog_14_method_60_code 53 = .ok (.iadd, 1) := by decide +kernel
theorem d_Mod_eatsDish_54 : decode prog_14_method_60_code 54 = .ok (.iaload, 1) := by decide +kernel
theorem d_Mod_eatsDish_55 : decode prog_14_method_60_code 55 = .ok (.invokevirtual 359, 3) := by decide +kernel
theorem d_Mod_eatsDish_58 : decode prog_14_method_60_code 58 = .ok (.iastore, 1) := by decide +kernel
theorem d_Mod_eatsDish_59 : decode prog_14_method_60_code 59 = .ok (.iinc 3 1, 3) := by decide +kernel
theorem d_Mod_eatsDish_62 : decode prog_14_method_60_code 62 = .ok (.goto (-39), 3) := by decide +kernel
theorem d_Mod_eatsDish_65 : decode prog_14_method_60_code 65 = .ok (.return_, 1) := by decide +kernel
theorem d_Mod_isInStore_0 : decode prog_14_method_61_code 0 = .ok (.aload_n 0, 1) := by decide +kernel
theorem d_Mod_isInStore_1 : decode prog_14_method_61_code 1 = .ok (.iload_n 1, 1) := by decide +kernel
theorem d_Mod_isInStore_2 : decode prog_14_method_61_code 2 = .ok (.invokevirtual 356, 3) := by decide +kernel
theorem d_Mod_isInStore_5 : decode prog_14_method_61_code 5 = .ok (.iconst 0, 1) := by decide +kernel
theorem d_Mod_isInStore_6 : decode prog_14_method_61_code 6 = .ok (.istore_n 2, 1) := by decide +kernel
theorem d_Mod_isInStore_7 : decode prog_14_method_61_code 7 = .ok (.iload_n 2, 1) := by decide +kernel
theorem d_Mod_isInStore_8 : decode prog_14_method_61_code 8 = .ok (.aload_n 0, 1) := by decide +kernel
theorem d_Mod_isInStore_9 : decode prog_14_method_61_code 9 = .ok (.getfield 46, 3) := by decide +kernel
theorem d_Mod_isInStore_12 : decode prog_14_method_61_code 12 = .ok (.aload_n 0, 1) := by decide +kernel
theorem d_Mod_isInStore_13 : decode prog_14_method_61_code 13 = .ok (.getfield 236, 3) := by decide +kernel
theorem d_Mod_isInStore_16 : decode prog_14_method_61_code 16 = .ok (.iaload, 1) := by decide +kernel
theorem d_Mod_isInStore_17 : decode prog_14_method_61_code 17 = .ok (.if_icmp .ge 26, 3) := by decide +kernel
theorem d_Mod_isInStore_20 : decode prog_14_method_61_code 20 = .ok (.aload_n 0, 1) := by decide +kernel
theorem d_Mod_isInStore_21 : decode prog_14_method_61_code 21 = .ok (.getfield 128, 3) := by decide +kernel
theorem d_Mod_isInStore_24 : decode prog_14_method_61_code 24 = .ok (.iload_n 2, 1) := by decide +kernel
theorem d_Mod_isInStore_25 : decode prog_14_method_61_code 25 = .ok (.iaload, 1) := by decide +kernel
theorem d_Mod_isInStore_26 : decode prog_14_method_61_code 26 = .ok (.aload_n 0, 1) := by decide +kernel
theorem d_Mod_isInStore_27 : decode prog_14_method_61_code 27 = .ok (.getfield 125, 3) := by decide +kernel
theorem d_Mod_isInStore_30 : decode prog_14_method_61_code 30 = .ok (.iload_n 2, 1) := by decide +kernel
theorem d_Mod_isInStore_31 : decode prog_14_method_61_code 31 = .ok (.iaload, 1) := by decide +kernel
theorem d_Mod_isInStore_32 : decode prog_14_method_61_code 32 = .ok (.if_icmp .le 5, 3) := by decide +kernel
theorem d_Mod_isInStore_35 : decode prog_14_method_61_code 35 = .ok (.iconst 0, 1) := by decide +kernel
theorem d_Mod_isInStore_36 : decode prog_14_method_61_code 36 = .ok (.ireturn, 1) := by decide +kernel
theorem d_Mod_isInStore_37 : decode prog_14_method_61_code 37 = .ok (.iinc 2 1, 3) := by decide +kernel
theorem d_Mod_isInStore_40 : decode prog_14_method_61_code 40 = .ok (.goto (-33), 3) := by decide +kernel
theorem d_Mod_isInStore_43 : decode prog_14_method_61_code 43 = .ok (.iconst 1, 1) := by decide +kernel
theorem d_Mod_isInStore_44 : decode prog_14_method_61_code 44 = .ok (.ireturn, 1) := by decide +kernel
theorem d_Mod_cooks_0 : decode prog_14_method_62_code 0 = .ok (.aload_n 0, 1) := by decide +kernel
theorem d_Mod_cooks_1 : decode prog_14_method_62_code 1 = .ok (.getfield 61, 3) := by decide +kernel
theorem d_Mod_cooks_4 : decode prog_14_method_62_code 4 = .ok (.iconst 5, 1) := by decide +kernel
theorem d_Mod_cooks_5 : decode prog_14_method_62_code 5 = .ok (.aload_n 0, 1) := by decide +kernel
theorem d_Mod_cooks_6 : decode prog_14_method_62_code 6 = .ok (.getfield 236, 3) := by decide +kernel
theorem d_Mod_cooks_9 : decode prog_14_method_62_code 9 = .ok (.imul, 1) := by decide +kernel
theorem d_Mod_cooks_10 : decode prog_14_method_62_code 10 = .ok (.iload_n 1, 1) := by decide +kernel
theorem d_Mod_cooks_11 : decode prog_14_method_62_code 11 = .ok (.iadd, 1) := by decide +kernel
theorem d_Mod_cooks_12 : decode prog_14_method_62_code 12 = .ok (.iaload, 1) := by decide +kernel
theorem d_Mod_cooks_13 : decode prog_14_method_62_code 13 = .ok (.istore_n 2, 1) := by decide +kernel
theorem d_Mod_cooks_14 : decode prog_14_method_62_code 14 = .ok (.aload_n 0, 1) := by decide +kernel
theorem d_Mod_cooks_15 : decode prog_14_method_62_code 15 = .ok (.iload_n 1, 1) := by decide +kernel
theorem d_Mod_cooks_16 : decode prog_14_method_62_code 16 = .ok (.invokevirtual 356, 3) := by decide +kernel
theorem d_Mod_cooks_19 : decode prog_14_method_62_code 19 = .ok (.iconst 0, 1) := by decide +kernel
theorem d_Mod_cooks_20 : decode prog_14_method_62_code 20 = .ok (.istore_n 3, 1) := by decide +kernel
theorem d_Mod_cooks_21 : decode prog_14_method_62_code 21 = .ok (.iload_n 3, 1) := by decide +kernel
theorem d_Mod_cooks_22 : decode prog_14_method_62_code 22 = .ok (.aload_n 0, 1) := by decide +kernel
theorem d_Mod_cooks_23 : decode prog_14_method_62_code 23 = .ok (.getfield 46, 3) := by decide +kernel
theorem d_Mod_cooks_26 : decode prog_14_method_62_code 26 = .ok (.aload_n 0, 1) := by decide +kernel
theorem d_Mod_cooks_27 : decode prog_14_method_62_code 27 = .ok (.getfield 236, 3) := by decide +kernel
theorem d_Mod_cooks_30 : decode prog_14_method_62_code 30 = .ok (.iaload, 1) := by decide +kernel
theorem d_Mod_cooks_31 : decode prog_14_method_62_code 31 = .ok (.if_icmp .ge 24, 3) := by decide +kernel
theorem d_Mod_cooks_34 : decode prog_14_method_62_code 34 = .ok (.aload_n 0, 1) := by decide +kernel
theorem d_Mod_cooks_35 : decode prog_14_method_62_code 35 = .ok (.getfield 125, 3) := by decide +kernel
theorem d_Mod_cooks_38 : decode prog_14_method_62_code 38 = .ok (.iload_n 3, 1) := by decide +kernel
theorem d_Mod_cooks_39 : decode prog_14_method_62_code 39 = .ok (.dup2, 1) := by decide +kernel
theorem d_Mod_cooks_40 : decode prog_14_method_62_code 40 = .ok (.iaload, 1) := by decide +kernel
theorem d_Mod_cooks_41 : decode prog_14_method_62_code 41 = .ok (.aload_n 0, 1) := by decide +kernel
theorem d_Mod_cooks_42 : decode prog_14_method_62_code 42 = .ok (.getfield 128, 3) := by decide +kernel
theorem d_Mod_cooks_45 : decode prog_14_method_62_code 45 = .ok (.iload_n 3, 1) := by decide +kernel
theorem d_Mod_cooks_46 : decode prog_14_method_62_code 46 = .ok (.iaload, 1) := by decide +kernel
theorem d_Mod_cooks_47 : decode prog_14_method_62_code 47 = .ok (.isub, 1) := by decide +kernel
theorem d_Mod_cooks_48 : decode prog_14_method_62_code 48 = .ok (.iastore, 1) := by decide +kernel
theorem d_Mod_cooks_49 : decode prog_14_method_62_code 49 = .ok (.iinc 3 1, 3) := by decide +kernel
theorem d_Mod_cooks_52 : decode prog_14_method_62_code 52 = .ok (.goto (-31), 3) := by decide +kernel
theorem d_Mod_cooks_55 : decode prog_14_method_62_code 55 = .ok (.aload_n 0, 1) := by decide +kernel
theorem d_Mod_cooks_56 : decode prog_14_method_62_code 56 = .ok (.getfield 125, 3) := by decide +kernel
theorem d_Mod_cooks_59 : decode prog_14_method_62_code 59 = .ok (.bipush 36, 2) := by decide +kernel
theorem d_Mod_cooks_61 : decode prog_14_method_62_code 61 = .ok (.dup2, 1) := by decide +kernel
theorem d_Mod_cooks_62 : decode prog_14_method_62_code 62 = .ok (.iaload, 1) := by decide +kernel
theorem d_Mod_cooks_63 : decode prog_14_method_62_code 63 = .ok (.aload_n 0, 1) := by decide +kernel
theorem d_Mod_cooks_64 : decode prog_14_method_62_code 64 = .ok (.invokevirtual 362, 3) := by decide +kernel
theorem d_Mod_cooks_67 : decode prog_14_method_62_code 67 = .ok (.iadd, 1) := by decide +kernel
theorem d_Mod_cooks_68 : decode prog_14_method_62_code 68 = .ok (.iastore, 1) := by decide +kernel
theorem d_Mod_cooks_69 : decode prog_14_method_62_code 69 = .ok (.aload_n 0, 1) := by decide +kernel
theorem d_Mod_cooks_70 : decode prog_14_method_62_code 70 = .ok (.invokevirtual 336, 3) := by decide +kernel
theorem d_Mod_cooks_73 : decode prog_14_method_62_code 73 = .ok (.aload_n 0, 1) := by decide +kernel
theorem d_Mod_cooks_74 : decode prog_14_method_62_code 74 = .ok (.getfield 116, 3) := by decide +kernel
theorem d_Mod_cooks_77 : decode prog_14_method_62_code 77 = .ok (.iconst 1, 1) := by decide +kernel
theorem d_Mod_cooks_78 : decode prog_14_method_62_code 78 = .ok (.iload_n 2, 1) := by decide +kernel
theorem d_Mod_cooks_79 : decode prog_14_method_62_code 79 = .ok (.iastore, 1) := by decide +kernel
theorem d_Mod_cooks_80 : decode prog_14_method_62_code 80 = .ok (.aload_n 0, 1) := by decide +kernel
theorem d_Mod_cooks_81 : decode prog_14_method_62_code 81 = .ok (.getfield 116, 3) := by decide +kernel
theorem d_Mod_cooks_84 : decode prog_14_method_62_code 84 = .ok (.iconst 3, 1) := by decide +kernel
theorem d_Mod_cooks_85 : decode prog_14_method_62_code 85 = .ok (.aload_n 0, 1) := by decide +kernel
theorem d_Mod_cooks_86 : decode prog_14_method_62_code 86 = .ok (.invokevirtual 339, 3) := by decide +kernel
theorem d_Mod_cooks_89 : decode prog_14_method_62_code 89 = .ok (.iastore, 1) := by decide +kernel
theorem d_Mod_cooks_90 : decode prog_14_method_62_code 90 = .ok (.bipush (-2), 2) := by decide +kernel
theorem d_Mod_cooks_92 : decode prog_14_method_62_code 92 = .ok (.istore_n 3, 1) := by decide +kernel
theorem d_Mod_cooks_93 : decode prog_14_method_62_code 93 = .ok (.aload_n 0, 1) := by decide +kernel
theorem d_Mod_cooks_94 : decode prog_14_method_62_code 94 = .ok (.bipush 8, 2) := by decide +kernel
theorem d_Mod_cooks_96 : decode prog_14_method_62_code 96 = .ok (.aload_n 0, 1) := by decide +kernel
theorem d_Mod_cooks_97 : decode prog_14_method_62_code 97 = .ok (.getfield 125, 3) := by decide +kernel
theorem d_Mod_cooks_100 : decode prog_14_method_62_code 100 = .ok (.bipush 37, 2) := by decide +kernel
theorem d_Mod_cooks_102 : decode prog_14_method_62_code 102 = .ok (.iaload, 1) := by decide +kernel
theorem d_Mod_cooks_103 : decode prog_14_method_62_code 103 = .ok (.imul, 1) := by decide +kernel
theorem d_Mod_cooks_104 : decode prog_14_method_62_code 104 = .ok (.bipush 100, 2) := by decide +kernel
theorem d_Mod_cooks_106 : decode prog_14_method_62_code 106 = .ok (.invokevirtual 365, 3) := by decide +kernel
theorem d_Mod_cooks_109 : decode prog_14_method_62_code 109 = .ok (.aload_n 0, 1) := by decide +kernel
theorem d_Mod_cooks_110 : decode prog_14_method_62_code 110 = .ok (.iconst 3, 1) := by decide +kernel
theorem d_Mod_cooks_111 : decode prog_14_method_62_code 111 = .ok (.iconst 0, 1) := by decide +kernel
theorem d_Mod_cooks_112 : decode prog_14_method_62_code 112 = .ok (.iconst 0, 1) := by decide +kernel
theorem d_Mod_cooks_113 : decode prog_14_method_62_code 113 = .ok (.bipush 100, 2) := by decide +kernel
theorem d_Mod_cooks_115 : decode prog_14_method_62_code 115 = .ok (.invokevirtual 342, 3) := by decide +kernel
theorem d_Mod_cooks_118 : decode prog_14_method_62_code 118 = .ok (.if_icmp .ge 29, 3) := by decide +kernel
theorem d_Mod_cooks_121 : decode prog_14_method_62_code 121 = .ok (.aload_n 0, 1) := by decide +kernel
theorem d_Mod_cooks_122 : decode prog_14_method_62_code 122 = .ok (.bipush 8, 2) := by decide +kernel
theorem d_Mod_cooks_124 : decode prog_14_method_62_code 124 = .ok (.aload_n 0, 1) := by decide +kernel
theorem d_Mod_cooks_125 : decode prog_14_method_62_code 125 = .ok (.getfield 125, 3) := by decide +kernel
theorem d_Mod_cooks_128 : decode prog_14_method_62_code 128 = .ok (.bipush 37, 2) := by decide +kernel
theorem d_Mod_cooks_130 : decode prog_14_method_62_code 130 = .ok (.iaload, 1) := by decide +kernel
theorem d_Mod_cooks_131 : decode prog_14_method_62_code 131 = .ok (.imul, 1) := by decide +kernel
theorem d_Mod_cooks_132 : decode prog_14_method_62_code 132 = .ok (.iconst 1, 1) := by decide +kernel
theorem d_Mod_cooks_133 : decode prog_14_method_62_code 133 = .ok (.iadd, 1) := by decide +kernel
theorem d_Mod_cooks_134 : decode prog_14_method_62_code 134 = .ok (.aload_n 0, 1) := by decide +kernel
theorem d_Mod_cooks_135 : decode prog_14_method_62_code 135 = .ok (.getfield 46, 3) := by decide +kernel
theorem d_Mod_cooks_138 : decode prog_14_method_62_code 138 = .ok (.aload_n 0, 1) := by decide +kernel
theorem d_Mod_cooks_139 : decode prog_14_method_62_code 139 = .ok (.getfield 236, 3) := by decide +kernel
theorem d_Mod_cooks_142 : decode prog_14_method_62_code 142 = .ok (.iaload, 1) := by decide +kernel
theorem d_Mod_cooks_143 : decode prog_14_method_62_code 143 = .ok (.invokevirtual 365, 3) := by decide +kernel
theorem d_Mod_cooks_146 : decode prog_14_method_62_code 146 = .ok (.istore_n 3, 1) := by decide +kernel
theorem d_Mod_cooks_147 : decode prog_14_method_62_code 147 = .ok (.iload_n 3, 1) := by decide +kernel
theorem d_Mod_cooks_148 : decode prog_14_method_62_code 148 = .ok (.ifCond .lt 15, 3) := by decide +kernel
theorem d_Mod_cooks_151 : decode prog_14_method_62_code 151 = .ok (.aload_n 0, 1) := by decide +kernel
theorem d_Mod_cooks_152 : decode prog_14_method_62_code 152 = .ok (.getfield 125, 3) := by decide +kernel
theorem d_Mod_cooks_155 : decode prog_14_method_62_code 155 = .ok (.iload_n 3, 1) := by decide +kernel
theorem d_Mod_cooks_156 : decode prog_14_method_62_code 156 = .ok (.iaload, 1) := by decide +kernel
theorem d_Mod_cooks_157 : decode prog_14_method_62_code 157 = .ok (.ifCond .ne 6, 3) := by decide +kernel
theorem d_Mod_cooks_160 : decode prog_14_method_62_code 160 = .ok (.bipush (-2), 2) := by decide +kernel
theorem d_Mod_cooks_162 : decode prog_14_method_62_code 162 = .ok (.istore_n 3, 1) := by decide +kernel
theorem d_Mod_cooks_163 : decode prog_14_method_62_code 163 = .ok (.iload_n 3, 1) := by decide +kernel
theorem d_Mod_cooks_164 : decode prog_14_method_62_code 164 = .ok (.ifCond .lt 23, 3) := by decide +kernel
theorem d_Mod_cooks_167 : decode prog_14_method_62_code 167 = .ok (.aload_n 0, 1) := by decide +kernel
theorem d_Mod_cooks_168 : decode prog_14_method_62_code 168 = .ok (.getfield 125, 3) := by decide +kernel
theorem d_Mod_cooks_171 : decode prog_14_method_62_code 171 = .ok (.iload_n 3, 1) := by decide +kernel
theorem d_Mod_cooks_172 : decode prog_14_method_62_code 172 = .ok (.dup2, 1) := by decide +kernel
theorem d_Mod_cooks_173 : decode prog_14_method_62_code 173 = .ok (.iaload, 1) := by decide +kernel
theorem d_Mod_cooks_174 : decode prog_14_method_62_code 174 = .ok (.iconst 1, 1) := by decide +kernel
theorem d_Mod_cooks_175 : decode prog_14_method_62_code 175 = .ok (.isub, 1) := by decide +kernel
theorem d_Mod_cooks_176 : decode prog_14_method_62_code 176 = .ok (.iastore, 1) := by decide +kernel
theorem d_Mod_cooks_177 : decode prog_14_method_62_code 177 = .ok (.aload_n 0, 1) := by decide +kernel
theorem d_Mod_cooks_178 : decode prog_14_method_62_code 178 = .ok (.getfield 128, 3) := by decide +kernel
theorem d_Mod_cooks_181 : decode prog_14_method_62_code 181 = .ok (.iload_n 3, 1) := by decide +kernel
theorem d_Mod_cooks_182 : decode prog_14_method_62_code 182 = .ok (.dup2, 1) := by decide +kernel
theorem d_Mod_cooks_183 : decode prog_14_method_62_code 183 = .ok (.iaload, 1) := by decide +kernel
theorem d_Mod_cooks_184 : decode prog_14_method_62_code 184 = .ok (.iconst 1, 1) := by decide +kernel
theorem d_Mod_cooks_185 : decode prog_14_method_62_code 185 = .ok (.iadd, 1) := by decide +kernel
theorem d_Mod_cooks_186 : decode prog_14_method_62_code 186 = .ok (.iastore, 1) := by decide +kernel
theorem d_Mod_cooks_187 : decode prog_14_method_62_code 187 = .ok (.aload_n 0, 1) := by decide +kernel
theorem d_Mod_cooks_188 : decode prog_14_method_62_code 188 = .ok (.getfield 125, 3) := by decide +kernel
theorem d_Mod_cooks_191 : decode prog_14_method_62_code 191 = .ok (.bipush 11, 2) := by decide +kernel
theorem d_Mod_cooks_193 : decode prog_14_method_62_code 193 = .ok (.iload_n 1, 1) := by decide +kernel
theorem d_Mod_cooks_194 : decode prog_14_method_62_code 194 = .ok (.iastore, 1) := by decide +kernel
theorem d_Mod_cooks_195 : decode prog_14_method_62_code 195 = .ok (.iconst 0, 1) := by decide +kernel
theorem d_Mod_cooks_196 : decode prog_14_method_62_code 196 = .ok (.istore 4, 2) := by decide +kernel
theorem d_Mod_cooks_198 : decode prog_14_method_62_code 198 = .ok (.iload 4, 2) := by decide +kernel
theorem d_Mod_cooks_200 : decode prog_14_method_62_code 200 = .ok (.iconst 3, 1) := by decide +kernel
theorem d_Mod_cooks_201 : decode prog_14_method_62_code 201 = .ok (.if_icmp .ge 26, 3) := by decide +kernel
theorem d_Mod_cooks_204 : decode prog_14_method_62_code 204 = .ok (.aload_n 0, 1) := by decide +kernel
theorem d_Mod_cooks_205 : decode prog_14_method_62_code 205 = .ok (.getfield 125, 3) := by decide +kernel
theorem d_Mod_cooks_208 : decode prog_14_method_62_code 208 = .ok (.bipush 12, 2) := by decide +kernel
theorem d_Mod_cooks_210 : decode prog_14_method_62_code 210 = .ok (.iload 4, 2) := by decide +kernel
theorem d_Mod_cooks_212 : decode prog_14_method_62_code 212 = .ok (.iadd, 1) := by decide +kernel
theorem d_Mod_cooks_213 : decode prog_14_method_62_code 213 = .ok (.aload_n 0, 1) := by decide +kernel
theorem d_Mod_cooks_214 : decode prog_14_method_62_code 214 = .ok (.iload 4, 2) := by decide +kernel
theorem d_Mod_cooks_216 : decode prog_14_method_62_code 216 = .ok (.iload_n 2, 1) := by decide +kernel
theorem d_Mod_cooks_217 : decode prog_14_method_62_code 217 = .ok (.invokevirtual 359, 3) := by decide +kernel
theorem d_Mod_cooks_220 : decode prog_14_method_62_code 220 = .ok (.iastore, 1) := by decide +kernel
theorem d_Mod_cooks_221 : decode prog_14_method_62_code 221 = .ok (.iinc 4 1, 3) := by decide +kernel
theorem d_Mod_cooks_224 : decode prog_14_method_62_code 224 = .ok (.goto (-26), 3) := by decide +kernel
theorem d_Mod_cooks_227 : decode prog_14_method_62_code 227 = .ok (.aload_n 0, 1) := by decide +kernel
theorem d_Mod_cooks_228 : decode prog_14_method_62_code 228 = .ok (.getfield 125, 3) := by decide +kernel
theorem d_Mod_cooks_231 : decode prog_14_method_62_code 231 = .ok (.bipush 6, 2) := by decide +kernel
theorem d_Mod_cooks_233 : decode prog_14_method_62_code 233 = .ok (.iload_n 1, 1) := by decide +kernel
theorem d_Mod_cooks_234 : decode prog_14_method_62_code 234 = .ok (.iadd, 1) := by decide +kernel
theorem d_Mod_cooks_235 : decode prog_14_method_62_code 235 = .ok (.dup2, 1) := by decide +kernel
theorem d_Mod_cooks_236 : decode prog_14_method_62_code 236 = .ok (.iaload, 1) := by decide +kernel
theorem d_Mod_cooks_237 : decode prog_14_method_62_code 237 = .ok (.iconst 1, 1) := by decide +kernel
theorem d_Mod_cooks_238 : decode prog_14_method_62_code 238 = .ok (.iadd, 1) := by decide +kernel
theorem d_Mod_cooks_239 : decode prog_14_method_62_code 239 = .ok (.iastore, 1) := by decide +kernel
theorem d_Mod_cooks_240 : decode prog_14_method_62_code 240 = .ok (.aload_n 0, 1) := by decide +kernel
theorem d_Mod_cooks_241 : decode prog_14_method_62_code 241 = .ok (.getfield 125, 3) := by decide +kernel
theorem d_Mod_cooks_244 : decode prog_14_method_62_code 244 = .ok (.bipush 37, 2) := by decide +kernel
theorem d_Mod_cooks_246 : decode prog_14_method_62_code 246 = .ok (.dup2, 1) := by decide +kernel
theorem d_Mod_cooks_247 : decode prog_14_method_62_code 247 = .ok (.iaload, 1) := by decide +kernel
theorem d_Mod_cooks_248 : decode prog_14_method_62_code 248 = .ok (.iconst 1, 1) := by decide +kernel
theorem d_Mod_cooks_249 : decode prog_14_method_62_code 249 = .ok (.iadd, 1) := by decide +kernel
theorem d_Mod_cooks_250 : decode prog_14_method_62_code 250 = .ok (.iastore, 1) := by decide +kernel
theorem d_Mod_cooks_251 : decode prog_14_method_62_code 251 = .ok (.iload_n 3, 1) := by decide +kernel
theorem d_Mod_cooks_252 : decode prog_14_method_62_code 252 = .ok (.ireturn, 1) := by decide +kernel
theorem d_Mod_dayGoes_0 : decode prog_14_method_63_code 0 = .ok (.iconst 0, 1) := by decide +kernel
theorem d_Mod_dayGoes_1 : decode prog_14_method_63_code 1 = .ok (.istore_n 1, 1) := by decide +kernel
theorem d_Mod_dayGoes_2 : decode prog_14_method_63_code 2 = .ok (.iload_n 1, 1) := by decide +kernel
theorem d_Mod_dayGoes_3 : decode prog_14_method_63_code 3 = .ok (.aload_n 0, 1) := by decide +kernel
theorem d_Mod_dayGoes_4 : decode prog_14_method_63_code 4 = .ok (.getfield 46, 3) := by decide +kernel
theorem d_Mod_dayGoes_7 : decode prog_14_method_63_code 7 = .ok (.aload_n 0, 1) := by decide +kernel
theorem d_Mod_dayGoes_8 : decode prog_14_method_63_code 8 = .ok (.getfield 236, 3) := by decide +kernel
theorem d_Mod_dayGoes_11 : decode prog_14_method_63_code 11 = .ok (.iaload, 1) := by decide +kernel
theorem d_Mod_dayGoes_12 : decode prog_14_method_63_code 12 = .ok (.if_icmp .ge 83, 3) := by decide +kernel
theorem d_Mod_dayGoes_15 : decode prog_14_method_63_code 15 = .ok (.aload_n 0, 1) := by decide +kernel
theorem d_Mod_dayGoes_16 : decode prog_14_method_63_code 16 = .ok (.invokevirtual 336, 3) := by decide +kernel
theorem d_Mod_dayGoes_19 : decode prog_14_method_63_code 19 = .ok (.aload_n 0, 1) := by decide +kernel
theorem d_Mod_dayGoes_20 : decode prog_14_method_63_code 20 = .ok (.getfield 116, 3) := by decide +kernel
theorem d_Mod_dayGoes_23 : decode prog_14_method_63_code 23 = .ok (.iconst 2, 1) := by decide +kernel
theorem d_Mod_dayGoes_24 : decode prog_14_method_63_code 24 = .ok (.iload_n 1, 1) := by decide +kernel
theorem d_Mod_dayGoes_25 : decode prog_14_method_63_code 25 = .ok (.iastore, 1) := by decide +kernel
theorem d_Mod_dayGoes_26 : decode prog_14_method_63_code 26 = .ok (.aload_n 0, 1) := by decide +kernel
theorem d_Mod_dayGoes_27 : decode prog_14_method_63_code 27 = .ok (.getfield 116, 3) := by decide +kernel
theorem d_Mod_dayGoes_30 : decode prog_14_method_63_code 30 = .ok (.bipush 7, 2) := by decide +kernel
theorem d_Mod_dayGoes_32 : decode prog_14_method_63_code 32 = .ok (.aload_n 0, 1) := by decide +kernel
theorem d_Mod_dayGoes_33 : decode prog_14_method_63_code 33 = .ok (.getfield 125, 3) := by decide +kernel
theorem d_Mod_dayGoes_36 : decode prog_14_method_63_code 36 = .ok (.iload_n 1, 1) := by decide +kernel
theorem d_Mod_dayGoes_37 : decode prog_14_method_63_code 37 = .ok (.iaload, 1) := by decide +kernel
theorem d_Mod_dayGoes_38 : decode prog_14_method_63_code 38 = .ok (.iastore, 1) := by decide +kernel
theorem d_Mod_dayGoes_39 : decode prog_14_method_63_code 39 = .ok (.aload_n 0, 1) := by decide +kernel
theorem d_Mod_dayGoes_40 : decode prog_14_method_63_code 40 = .ok (.getfield 116, 3) := by decide +kernel
theorem d_Mod_dayGoes_43 : decode prog_14_method_63_code 43 = .ok (.bipush 8, 2) := by decide +kernel
theorem d_Mod_dayGoes_45 : decode prog_14_method_63_code 45 = .ok (.aload_n 0, 1) := by decide +kernel
theorem d_Mod_dayGoes_46 : decode prog_14_method_63_code 46 = .ok (.getfield 52, 3) := by decide +kernel
theorem d_Mod_dayGoes_49 : decode prog_14_method_63_code 49 = .ok (.bipush 6, 2) := by decide +kernel
theorem d_Mod_dayGoes_51 : decode prog_14_method_63_code 51 = .ok (.aload_n 0, 1) := by decide +kernel
theorem d_Mod_dayGoes_52 : decode prog_14_method_63_code 52 = .ok (.getfield 236, 3) := by decide +kernel
theorem d_Mod_dayGoes_55 : decode prog_14_method_63_code 55 = .ok (.imul, 1) := by decide +kernel
theorem d_Mod_dayGoes_56 : decode prog_14_method_63_code 56 = .ok (.iload_n 1, 1) := by decide +kernel
theorem d_Mod_dayGoes_57 : decode prog_14_method_63_code 57 = .ok (.iadd, 1) := by decide +kernel
theorem d_Mod_dayGoes_58 : decode prog_14_method_63_code 58 = .ok (.iaload, 1) := by decide +kernel
theorem d_Mod_dayGoes_59 : decode prog_14_method_63_code 59 = .ok (.iastore, 1) := by decide +kernel
theorem d_Mod_dayGoes_60 : decode prog_14_method_63_code 60 = .ok (.aload_n 0, 1) := by decide +kernel
theorem d_Mod_dayGoes_61 : decode prog_14_method_63_code 61 = .ok (.getfield 131, 3) := by decide +kernel
theorem d_Mod_dayGoes_64 : decode prog_14_method_63_code 64 = .ok (.iload_n 1, 1) := by decide +kernel
theorem d_Mod_dayGoes_65 : decode prog_14_method_63_code 65 = .ok (.aload_n 0, 1) := by decide +kernel
theorem d_Mod_dayGoes_66 : decode prog_14_method_63_code 66 = .ok (.getfield 125, 3) := by decide +kernel
theorem d_Mod_dayGoes_69 : decode prog_14_method_63_code 69 = .ok (.iload_n 1, 1) := by decide +kernel
theorem d_Mod_dayGoes_70 : decode prog_14_method_63_code 70 = .ok (.iaload, 1) := by decide +kernel
theorem d_Mod_dayGoes_71 : decode prog_14_method_63_code 71 = .ok (.aload_n 0, 1) := by decide +kernel
theorem d_Mod_dayGoes_72 : decode prog_14_method_63_code 72 = .ok (.iconst 2, 1) := by decide +kernel
theorem d_Mod_dayGoes_73 : decode prog_14_method_63_code 73 = .ok (.iconst 0, 1) := by decide +kernel
theorem d_Mod_dayGoes_74 : decode prog_14_method_63_code 74 = .ok (.bipush (-9), 2) := by decide +kernel
theorem d_Mod_dayGoes_76 : decode prog_14_method_63_code 76 = .ok (.bipush 9, 2) := by decide +kernel
theorem d_Mod_dayGoes_78 : decode prog_14_method_63_code 78 = .ok (.invokevirtual 342, 3) := by decide +kernel
theorem d_Mod_dayGoes_81 : decode prog_14_method_63_code 81 = .ok (.iadd, 1) := by decide +kernel
theorem d_Mod_dayGoes_82 : decode prog_14_method_63_code 82 = .ok (.iconst 0, 1) := by decide +kernel
theorem d_Mod_dayGoes_83 : decode prog_14_method_63_code 83 = .ok (.bipush 99, 2) := by decide +kernel
theorem d_Mod_dayGoes_85 : decode prog_14_method_63_code 85 = .ok (.invokestatic 330, 3) := by decide +kernel
theorem d_Mod_dayGoes_88 : decode prog_14_method_63_code 88 = .ok (.iastore, 1) := by decide +kernel
theorem d_Mod_dayGoes_89 : decode prog_14_method_63_code 89 = .ok (.iinc 1 1, 3) := by decide +kernel
theorem d_Mod_dayGoes_92 : decode prog_14_method_63_code 92 = .ok (.goto (-90), 3) := by decide +kernel
theorem d_Mod_dayGoes_95 : decode prog_14_method_63_code 95 = .ok (.iconst 0, 1) := by decide +kernel
theorem d_Mod_dayGoes_96 : decode prog_14_method_63_code 96 = .ok (.istore_n 1, 1) := by decide +kernel
theorem d_Mod_dayGoes_97 : decode prog_14_method_63_code 97 = .ok (.iload_n 1, 1) := by decide +kernel
theorem d_Mod_dayGoes_98 : decode prog_14_method_63_code 98 = .ok (.aload_n 0, 1) := by decide +kernel
theorem d_Mod_dayGoes_99 : decode prog_14_method_63_code 99 = .ok (.getfield 46, 3) := by decide +kernel
theorem d_Mod_dayGoes_102 : decode prog_14_method_63_code 102 = .ok (.aload_n 0, 1) := by decide +kernel
theorem d_Mod_dayGoes_103 : decode prog_14_method_63_code 103 = .ok (.getfield 236, 3) := by decide +kernel
theorem d_Mod_dayGoes_106 : decode prog_14_method_63_code 106 = .ok (.iaload, 1) := by decide +kernel
theorem d_Mod_dayGoes_107 : decode prog_14_method_63_code 107 = .ok (.if_icmp .ge 21, 3) := by decide +kernel
theorem d_Mod_dayGoes_110 : decode prog_14_method_63_code 110 = .ok (.aload_n 0, 1) := by decide +kernel
theorem d_Mod_dayGoes_111 : decode prog_14_method_63_code 111 = .ok (.getfield 125, 3) := by decide +kernel
theorem d_Mod_dayGoes_114 : decode prog_14_method_63_code 114 = .ok (.iload_n 1, 1) := by decide +kernel
theorem d_Mod_dayGoes_115 : decode prog_14_method_63_code 115 = .ok (.aload_n 0, 1) := by decide +kernel
theorem d_Mod_dayGoes_116 : decode prog_14_method_63_code 116 = .ok (.getfield 131, 3) := by decide +kernel
theorem d_Mod_dayGoes_119 : decode prog_14_method_63_code 119 = .ok (.iload_n 1, 1) := by decide +kernel
theorem d_Mod_dayGoes_120 : decode prog_14_method_63_code 120 = .ok (.iaload, 1) := by decide +kernel
theorem d_Mod_dayGoes_121 : decode prog_14_method_63_code 121 = .ok (.iastore, 1) := by decide +kernel
theorem d_Mod_dayGoes_122 : decode prog_14_method_63_code 122 = .ok (.iinc 1 1, 3) := by decide +kernel
theorem d_Mod_dayGoes_125 : decode prog_14_method_63_code 125 = .ok (.goto (-28), 3) := by decide +kernel
theorem d_Mod_dayGoes_128 : decode prog_14_method_63_code 128 = .ok (.aload_n 0, 1) := by decide +kernel
theorem d_Mod_dayGoes_129 : decode prog_14_method_63_code 129 = .ok (.getfield 125, 3) := by decide +kernel
theorem d_Mod_dayGoes_132 : decode prog_14_method_63_code 132 = .ok (.bipush 35, 2) := by decide +kernel
theorem d_Mod_dayGoes_134 : decode prog_14_method_63_code 134 = .ok (.dup2, 1) := by decide +kernel
theorem d_Mod_dayGoes_135 : decode prog_14_method_63_code 135 = .ok (.iaload, 1) := by decide +kernel
theorem d_Mod_dayGoes_136 : decode prog_14_method_63_code 136 = .ok (.iconst 1, 1) := by decide +kernel
theorem d_Mod_dayGoes_137 : decode prog_14_method_63_code 137 = .ok (.iadd, 1) := by decide +kernel
theorem d_Mod_dayGoes_138 : decode prog_14_method_63_code 138 = .ok (.iastore, 1) := by decide +kernel
theorem d_Mod_dayGoes_139 : decode prog_14_method_63_code 139 = .ok (.return_, 1) := by decide +kernel
theorem d_Mod_goes_0 : decode prog_14_method_64_code 0 = .ok (.iconst 0, 1) := by decide +kernel
theorem d_Mod_goes_1 : decode prog_14_method_64_code 1 = .ok (.istore_n 2, 1) := by decide +kernel
theorem d_Mod_goes_2 : decode prog_14_method_64_code 2 = .ok (.iload_n 2, 1) := by decide +kernel
theorem d_Mod_goes_3 : decode prog_14_method_64_code 3 = .ok (.iload_n 1, 1) := by decide +kernel
theorem d_Mod_goes_4 : decode prog_14_method_64_code 4 = .ok (.if_icmp .ge 13, 3) := by decide +kernel
theorem d_Mod_goes_7 : decode prog_14_method_64_code 7 = .ok (.aload_n 0, 1) := by decide +kernel
theorem d_Mod_goes_8 : decode prog_14_method_64_code 8 = .ok (.invokevirtual 368, 3) := by decide +kernel
theorem d_Mod_goes_11 : decode prog_14_method_64_code 11 = .ok (.iinc 2 1, 3) := by decide +kernel
theorem d_Mod_goes_14 : decode prog_14_method_64_code 14 = .ok (.goto (-12), 3) := by decide +kernel
theorem d_Mod_goes_17 : decode prog_14_method_64_code 17 = .ok (.return_, 1) := by decide +kernel
theorem d_Mod_food_0 : decode prog_14_method_65_code 0 = .ok (.aload_n 0, 1) := by decide +kernel
theorem d_Mod_food_1 : decode prog_14_method_65_code 1 = .ok (.iload_n 1, 1) := by decide +kernel
theorem d_Mod_food_2 : decode prog_14_method_65_code 2 = .ok (.invokevirtual 371, 3) := by decide +kernel
theorem d_Mod_food_5 : decode prog_14_method_65_code 5 = .ok (.ifCond .ne 5, 3) := by decide +kernel
theorem d_Mod_food_8 : decode prog_14_method_65_code 8 = .ok (.iconst (-1), 1) := by decide +kernel
theorem d_Mod_food_9 : decode prog_14_method_65_code 9 = .ok (.ireturn, 1) := by decide +kernel
theorem d_Mod_food_10 : decode prog_14_method_65_code 10 = .ok (.iload_n 2, 1) := by decide +kernel
theorem d_Mod_food_11 : decode prog_14_method_65_code 11 = .ok (.tableswitch 76 0 4 #[33, 40, 55, 55, 55], 33) := by decide +kernel
theorem d_Mod_food_44 : decode prog_14_method_65_code 44 = .ok (.aload_n 0, 1) := by decide +kernel
theorem d_Mod_food_45 : decode prog_14_method_65_code 45 = .ok (.getfield 122, 3) := by decide +kernel
theorem d_Mod_food_48 : decode prog_14_method_65_code 48 = .ok (.iload_n 1, 1) := by decide +kernel
theorem d_Mod_food_49 : decode prog_14_method_65_code 49 = .ok (.iaload, 1) := by decide +kernel
theorem d_Mod_food_50 : decode prog_14_method_65_code 50 = .ok (.ireturn, 1) := by decide +kernel
theorem d_Mod_food_51 : decode prog_14_method_65_code 51 = .ok (.aload_n 0, 1) := by decide +kernel
theorem d_Mod_food_52 : decode prog_14_method_65_code 52 = .ok (.getfield 52, 3) := by decide +kernel
theorem d_Mod_food_55 : decode prog_14_method_65_code 55 = .ok (.bipush 6, 2) := by decide +kernel
theorem d_Mod_food_57 : decode prog_14_method_65_code 57 = .ok (.aload_n 0, 1) := by decide +kernel
theorem d_Mod_food_58 : decode prog_14_method_65_code 58 = .ok (.getfield 236, 3) := by decide +kernel
theorem d_Mod_food_61 : decode prog_14_method_65_code 61 = .ok (.imul, 1) := by decide +kernel
theorem d_Mod_food_62 : decode prog_14_method_65_code 62 = .ok (.iload_n 1, 1) := by decide +kernel
theorem d_Mod_food_63 : decode prog_14_method_65_code 63 = .ok (.iadd, 1) := by decide +kernel
theorem d_Mod_food_64 : decode prog_14_method_65_code 64 = .ok (.iaload, 1) := by decide +kernel
theorem d_Mod_food_65 : decode prog_14_method_65_code 65 = .ok (.ireturn, 1) := by decide +kernel
theorem d_Mod_food_66 : decode prog_14_method_65_code 66 = .ok (.aload_n 0, 1) := by decide +kernel
theorem d_Mod_food_67 : decode prog_14_method_65_code 67 = .ok (.getfield 55, 3) := by decide +kernel
theorem d_Mod_food_70 : decode prog_14_method_65_code 70 = .ok (.iconst 3, 1) := by decide +kernel
theorem d_Mod_food_71 : decode prog_14_method_65_code 71 = .ok (.bipush 6, 2) := by decide +kernel
theorem d_Mod_food_73 : decode prog_14_method_65_code 73 = .ok (.aload_n 0, 1) := by decide +kernel
theorem d_Mod_food_74 : decode prog_14_method_65_code 74 = .ok (.getfield 236, 3) := by decide +kernel
theorem d_Mod_food_77 : decode prog_14_method_65_code 77 = .ok (.imul, 1) := by decide +kernel
theorem d_Mod_food_78 : decode prog_14_method_65_code 78 = .ok (.iload_n 1, 1) := by decide +kernel
theorem d_Mod_food_79 : decode prog_14_method_65_code 79 = .ok (.iadd, 1) := by decide +kernel
theorem d_Mod_food_80 : decode prog_14_method_65_code 80 = .ok (.imul, 1) := by decide +kernel
theorem d_Mod_food_81 : decode prog_14_method_65_code 81 = .ok (.iload_n 2, 1) := by decide +kernel
theorem d_Mod_food_82 : decode prog_14_method_65_code 82 = .ok (.iadd, 1) := by decide +kernel
theorem d_Mod_food_83 : decode prog_14_method_65_code 83 = .ok (.iconst 2, 1) := by decide +kernel
theorem d_Mod_food_84 : decode prog_14_method_65_code 84 = .ok (.isub, 1) := by decide +kernel
theorem d_Mod_food_85 : decode prog_14_method_65_code 85 = .ok (.iaload, 1) := by decide +kernel
theorem d_Mod_food_86 : decode prog_14_method_65_code 86 = .ok (.ireturn, 1) := by decide +kernel
theorem d_Mod_food_87 : decode prog_14_method_65_code 87 = .ok (.iconst (-1), 1) := by decide +kernel
theorem d_Mod_food_88 : decode prog_14_method_65_code 88 = .ok (.ireturn, 1) := by decide +kernel
theorem d_Mod_dish_0 : decode prog_14_method_66_code 0 = .ok (.aload_n 0, 1) := by decide +kernel
theorem d_Mod_dish_1 : decode prog_14_method_66_code 1 = .ok (.iload_n 1, 1) := by decide +kernel
theorem d_Mod_dish_2 : decode prog_14_method_66_code 2 = .ok (.invokevirtual 374, 3) := by decide +kernel
theorem d_Mod_dish_5 : decode prog_14_method_66_code 5 = .ok (.ifCond .ne 5, 3) := by decide +kernel
theorem d_Mod_dish_8 : decode prog_14_method_66_code 8 = .ok (.iconst (-1), 1) := by decide +kernel
theorem d_Mod_dish_9 : decode prog_14_method_66_code 9 = .ok (.ireturn, 1) := by decide +kernel
theorem d_Mod_dish_10 : decode prog_14_method_66_code 10 = .ok (.aload_n 0, 1) := by decide +kernel
theorem d_Mod_dish_11 : decode prog_14_method_66_code 11 = .ok (.invokevirtual 377, 3) := by decide +kernel
theorem d_Mod_dish_14 : decode prog_14_method_66_code 14 = .ok (.aload_n 0, 1) := by decide +kernel
theorem d_Mod_dish_15 : decode prog_14_method_66_code 15 = .ok (.iload_n 1, 1) := by decide +kernel
theorem d_Mod_dish_16 : decode prog_14_method_66_code 16 = .ok (.invokevirtual 356, 3) := by decide +kernel
theorem d_Mod_dish_19 : decode prog_14_method_66_code 19 = .ok (.iload_n 2, 1) := by decide +kernel
theorem d_Mod_dish_20 : decode prog_14_method_66_code 20 = .ok (.tableswitch 99 0 6 #[44, 58, 63, 68, 68, 68, 89], 44) := by decide +kernel
theorem d_Mod_dish_64 : decode prog_14_method_66_code 64 = .ok (.aload_n 0, 1) := by decide +kernel
theorem d_Mod_dish_65 : decode prog_14_method_66_code 65 = .ok (.getfield 61, 3) := by decide +kernel
theorem d_Mod_dish_68 : decode prog_14_method_66_code 68 = .ok (.iconst 5, 1) := by decide +kernel
theorem d_Mod_dish_69 : decode prog_14_method_66_code 69 = .ok (.aload_n 0, 1) := by decide +kernel
theorem d_Mod_dish_70 : decode prog_14_method_66_code 70 = .ok (.getfield 236, 3) := by decide +kernel
theorem d_Mod_dish_73 : decode prog_14_method_66_code 73 = .ok (.imul, 1) := by decide +kernel
theorem d_Mod_dish_74 : decode prog_14_method_66_code 74 = .ok (.iload_n 1, 1) := by decide +kernel
theorem d_Mod_dish_75 : decode prog_14_method_66_code 75 = .ok (.iadd, 1) := by decide +kernel
theorem d_Mod_dish_76 : decode prog_14_method_66_code 76 = .ok (.iaload, 1) := by decide +kernel
theorem d_Mod_dish_77 : decode prog_14_method_66_code 77 = .ok (.ireturn, 1) := by decide +kernel
theorem d_Mod_dish_78 : decode prog_14_method_66_code 78 = .ok (.aload_n 0, 1) := by decide +kernel
theorem d_Mod_dish_79 : decode prog_14_method_66_code 79 = .ok (.invokevirtual 339, 3) := by decide +kernel
theorem d_Mod_dish_82 : decode prog_14_method_66_code 82 = .ok (.ireturn, 1) := by decide +kernel
theorem d_Mod_dish_83 : decode prog_14_method_66_code 83 = .ok (.aload_n 0, 1) := by decide +kernel
theorem d_Mod_dish_84 : decode prog_14_method_66_code 84 = .ok (.invokevirtual 362, 3) := by decide +kernel
theorem d_Mod_dish_87 : decode prog_14_method_66_code 87 = .ok (.ireturn, 1) := by decide +kernel
theorem d_Mod_dish_88 : decode prog_14_method_66_code 88 = .ok (.aload_n 0, 1) := by decide +kernel
theorem d_Mod_dish_89 : decode prog_14_method_66_code 89 = .ok (.iload_n 2, 1) := by decide +kernel
theorem d_Mod_dish_90 : decode prog_14_method_66_code 90 = .ok (.iconst 3, 1) := by decide +kernel
theorem d_Mod_dish_91 : decode prog_14_method_66_code 91 = .ok (.isub, 1) := by decide +kernel
theorem d_Mod_dish_92 : decode prog_14_method_66_code 92 = .ok (.aload_n 0, 1) := by decide +kernel
theorem d_Mod_dish_93 : decode prog_14_method_66_code 93 = .ok (.getfield 61, 3) := by decide +kernel
theorem d_Mod_dish_96 : decode prog_14_method_66_code 96 = .ok (.iconst 5, 1) := by decide +kernel
theorem d_Mod_dish_97 : decode prog_14_method_66_code 97 = .ok (.aload_n 0, 1) := by decide +kernel
theorem d_Mod_dish_98 : decode prog_14_method_66_code 98 = .ok (.getfield 236, 3) := by decide +kernel
theorem d_Mod_dish_101 : decode prog_14_method_66_code 101 = .ok (.imul, 1) := by decide +kernel
theorem d_Mod_dish_102 : decode prog_14_method_66_code 102 = .ok (.iload_n 1, 1) := by decide +kernel
theorem d_Mod_dish_103 : decode prog_14_method_66_code 103 = .ok (.iadd, 1) := by decide +kernel
theorem d_Mod_dish_104 : decode prog_14_method_66_code 104 = .ok (.iaload, 1) := by decide +kernel
theorem d_Mod_dish_105 : decode prog_14_method_66_code 105 = .ok (.invokevirtual 359, 3) := by decide +kernel
theorem d_Mod_dish_108 : decode prog_14_method_66_code 108 = .ok (.ireturn, 1) := by decide +kernel
theorem d_Mod_dish_109 : decode prog_14_method_66_code 109 = .ok (.aload_n 0, 1) := by decide +kernel
theorem d_Mod_dish_110 : decode prog_14_method_66_code 110 = .ok (.getfield 125, 3) := by decide +kernel
theorem d_Mod_dish_113 : decode prog_14_method_66_code 113 = .ok (.bipush 6, 2) := by decide +kernel
theorem d_Mod_dish_115 : decode prog_14_method_66_code 115 = .ok (.iload_n 1, 1) := by decide +kernel
theorem d_Mod_dish_116 : decode prog_14_method_66_code 116 = .ok (.iadd, 1) := by decide +kernel
theorem d_Mod_dish_117 : decode prog_14_method_66_code 117 = .ok (.iaload, 1) := by decide +kernel
theorem d_Mod_dish_118 : decode prog_14_method_66_code 118 = .ok (.ireturn, 1) := by decide +kernel
theorem d_Mod_dish_119 : decode prog_14_method_66_code 119 = .ok (.iconst (-1), 1) := by decide +kernel
theorem d_Mod_dish_120 : decode prog_14_method_66_code 120 = .ok (.ireturn, 1) := by decide +kernel
theorem d_Mod_amount_0 : decode prog_14_method_67_code 0 = .ok (.aload_n 0, 1) := by decide +kernel
theorem d_Mod_amount_1 : decode prog_14_method_67_code 1 = .ok (.iload_n 1, 1) := by decide +kernel
theorem d_Mod_amount_2 : decode prog_14_method_67_code 2 = .ok (.invokevirtual 374, 3) := by decide +kernel
theorem d_Mod_amount_5 : decode prog_14_method_67_code 5 = .ok (.ifCond .eq 32, 3) := by decide +kernel
theorem d_Mod_amount_8 : decode prog_14_method_67_code 8 = .ok (.aload_n 0, 1) := by decide +kernel
theorem d_Mod_amount_9 : decode prog_14_method_67_code 9 = .ok (.iload_n 2, 1) := by decide +kernel
theorem d_Mod_amount_10 : decode prog_14_method_67_code 10 = .ok (.invokevirtual 371, 3) := by decide +kernel
theorem d_Mod_amount_13 : decode prog_14_method_67_code 13 = .ok (.ifCond .eq 24, 3) := by decide +kernel
theorem d_Mod_amount_16 : decode prog_14_method_67_code 16 = .ok (.aload_n 0, 1) := by decide +kernel
theorem d_Mod_amount_17 : decode prog_14_method_67_code 17 = .ok (.getfield 64, 3) := by decide +kernel
theorem d_Mod_amount_20 : decode prog_14_method_67_code 20 = .ok (.bipush 6, 2) := by decide +kernel
theorem d_Mod_amount_22 : decode prog_14_method_67_code 22 = .ok (.iconst 5, 1) := by decide +kernel
theorem d_Mod_amount_23 : decode prog_14_method_67_code 23 = .ok (.aload_n 0, 1) := by decide +kernel
theorem d_Mod_amount_24 : decode prog_14_method_67_code 24 = .ok (.getfield 236, 3) := by decide +kernel
theorem d_Mod_amount_27 : decode prog_14_method_67_code 27 = .ok (.imul, 1) := by decide +kernel
theorem d_Mod_amount_28 : decode prog_14_method_67_code 28 = .ok (.iload_n 1, 1) := by decide +kernel
theorem d_Mod_amount_29 : decode prog_14_method_67_code 29 = .ok (.iadd, 1) := by decide +kernel
theorem d_Mod_amount_30 : decode prog_14_method_67_code 30 = .ok (.imul, 1) := by decide +kernel
theorem d_Mod_amount_31 : decode prog_14_method_67_code 31 = .ok (.iload_n 2, 1) := by decide +kernel
theorem d_Mod_amount_32 : decode prog_14_method_67_code 32 = .ok (.iadd, 1) := by decide +kernel
theorem d_Mod_amount_33 : decode prog_14_method_67_code 33 = .ok (.iaload, 1) := by decide +kernel
theorem d_Mod_amount_34 : decode prog_14_method_67_code 34 = .ok (.goto 4, 3) := by decide +kernel
theorem d_Mod_amount_37 : decode prog_14_method_67_code 37 = .ok (.iconst (-1), 1) := by decide +kernel
theorem d_Mod_amount_38 : decode prog_14_method_67_code 38 = .ok (.ireturn, 1) := by decide +kernel
theorem d_Mod_guest_0 : decode prog_14_method_68_code 0 = .ok (.aload_n 0, 1) := by decide +kernel
theorem d_Mod_guest_1 : decode prog_14_method_68_code 1 = .ok (.iload_n 1, 1) := by decide +kernel
theorem d_Mod_guest_2 : decode prog_14_method_68_code 2 = .ok (.invokevirtual 380, 3) := by decide +kernel
theorem d_Mod_guest_5 : decode prog_14_method_68_code 5 = .ok (.ifCond .ne 5, 3) := by decide +kernel
theorem d_Mod_guest_8 : decode prog_14_method_68_code 8 = .ok (.iconst (-1), 1) := by decide +kernel
theorem d_Mod_guest_9 : decode prog_14_method_68_code 9 = .ok (.ireturn, 1) := by decide +kernel
theorem d_Mod_guest_10 : decode prog_14_method_68_code 10 = .ok (.aload_n 0, 1) := by decide +kernel
theorem d_Mod_guest_11 : decode prog_14_method_68_code 11 = .ok (.invokevirtual 377, 3) := by decide +kernel
theorem d_Mod_guest_14 : decode prog_14_method_68_code 14 = .ok (.iload_n 2, 1) := by decide +kernel
theorem d_Mod_guest_15 : decode prog_14_method_68_code 15 = .ok (.tableswitch 105 0 5 #[37, 51, 86, 96, 96, 96], 37) := by decide +kernel
theorem d_Mod_guest_52 : decode prog_14_method_68_code 52 = .ok (.aload_n 0, 1) := by decide +kernel
theorem d_Mod_guest_53 : decode prog_14_method_68_code 53 = .ok (.getfield 70, 3) := by decide +kernel
theorem d_Mod_guest_56 : decode prog_14_method_68_code 56 = .ok (.iconst 4, 1) := by decide +kernel
theorem d_Mod_guest_57 : decode prog_14_method_68_code 57 = .ok (.aload_n 0, 1) := by decide +kernel
theorem d_Mod_guest_58 : decode prog_14_method_68_code 58 = .ok (.getfield 236, 3) := by decide +kernel
theorem d_Mod_guest_61 : decode prog_14_method_68_code 61 = .ok (.imul, 1) := by decide +kernel
theorem d_Mod_guest_62 : decode prog_14_method_68_code 62 = .ok (.iload_n 1, 1) := by decide +kernel
theorem d_Mod_guest_63 : decode prog_14_method_68_code 63 = .ok (.iadd, 1) := by decide +kernel
theorem d_Mod_guest_64 : decode prog_14_method_68_code 64 = .ok (.iaload, 1) := by decide +kernel
theorem d_Mod_guest_65 : decode prog_14_method_68_code 65 = .ok (.ireturn, 1) := by decide +kernel
theorem d_Mod_guest_66 : decode prog_14_method_68_code 66 = .ok (.aload_n 0, 1) := by decide +kernel
theorem d_Mod_guest_67 : decode prog_14_method_68_code 67 = .ok (.getfield 125, 3) := by decide +kernel
theorem d_Mod_guest_70 : decode prog_14_method_68_code 70 = .ok (.bipush 15, 2) := by decide +kernel
theorem d_Mod_guest_72 : decode prog_14_method_68_code 72 = .ok (.iload_n 1, 1) := by decide +kernel
theorem d_Mod_guest_73 : decode prog_14_method_68_code 73 = .ok (.iadd, 1) := by decide +kernel
theorem d_Mod_guest_74 : decode prog_14_method_68_code 74 = .ok (.iaload, 1) := by decide +kernel
theorem d_Mod_guest_75 : decode prog_14_method_68_code 75 = .ok (.ifCond .ge 8, 3) := by decide +kernel
theorem d_Mod_guest_78 : decode prog_14_method_68_code 78 = .ok (.bipush (-2), 2) := by decide +kernel
theorem d_Mod_guest_80 : decode prog_14_method_68_code 80 = .ok (.goto 20, 3) := by decide +kernel
theorem d_Mod_guest_83 : decode prog_14_method_68_code 83 = .ok (.aload_n 0, 1) := by decide +kernel
theorem d_Mod_guest_84 : decode prog_14_method_68_code 84 = .ok (.getfield 125, 3) := by decide +kernel
theorem d_Mod_guest_87 : decode prog_14_method_68_code 87 = .ok (.bipush 35, 2) := by decide +kernel
theorem d_Mod_guest_89 : decode prog_14_method_68_code 89 = .ok (.iaload, 1) := by decide +kernel
theorem d_Mod_guest_90 : decode prog_14_method_68_code 90 = .ok (.aload_n 0, 1) := by decide +kernel
theorem d_Mod_guest_91 : decode prog_14_method_68_code 91 = .ok (.getfield 125, 3) := by decide +kernel
theorem d_Mod_guest_94 : decode prog_14_method_68_code 94 = .ok (.bipush 15, 2) := by decide +kernel
theorem d_Mod_guest_96 : decode prog_14_method_68_code 96 = .ok (.iload_n 1, 1) := by decide +kernel
theorem d_Mod_guest_97 : decode prog_14_method_68_code 97 = .ok (.iadd, 1) := by decide +kernel
theorem d_Mod_guest_98 : decode prog_14_method_68_code 98 = .ok (.iaload, 1) := by decide +kernel
theorem d_Mod_guest_99 : decode prog_14_method_68_code 99 = .ok (.isub, 1) := by decide +kernel
theorem d_Mod_guest_100 : decode prog_14_method_68_code 100 = .ok (.ireturn, 1) := by decide +kernel
theorem d_Mod_guest_101 : decode prog_14_method_68_code 101 = .ok (.aload_n 0, 1) := by decide +kernel
theorem d_Mod_guest_102 : decode prog_14_method_68_code 102 = .ok (.getfield 125, 3) := by decide +kernel
theorem d_Mod_guest_105 : decode prog_14_method_68_code 105 = .ok (.bipush 31, 2) := by decide +kernel
theorem d_Mod_guest_107 : decode prog_14_method_68_code 107 = .ok (.iload_n 1, 1) := by decide +kernel
theorem d_Mod_guest_108 : decode prog_14_method_68_code 108 = .ok (.iadd, 1) := by decide +kernel
theorem d_Mod_guest_109 : decode prog_14_method_68_code 109 = .ok (.iaload, 1) := by decide +kernel
theorem d_Mod_guest_110 : decode prog_14_method_68_code 110 = .ok (.ireturn, 1) := by decide +kernel
theorem d_Mod_guest_111 : decode prog_14_method_68_code 111 = .ok (.aload_n 0, 1) := by decide +kernel
theorem d_Mod_guest_112 : decode prog_14_method_68_code 112 = .ok (.iload_n 1, 1) := by decide +kernel
theorem d_Mod_guest_113 : decode prog_14_method_68_code 113 = .ok (.iload_n 2, 1) := by decide +kernel
theorem d_Mod_guest_114 : decode prog_14_method_68_code 114 = .ok (.iconst 3, 1) := by decide +kernel
theorem d_Mod_guest_115 : decode prog_14_method_68_code 115 = .ok (.isub, 1) := by decide +kernel
theorem d_Mod_guest_116 : decode prog_14_method_68_code 116 = .ok (.invokevirtual 349, 3) := by decide +kernel
theorem d_Mod_guest_119 : decode prog_14_method_68_code 119 = .ok (.ireturn, 1) := by decide +kernel
theorem d_Mod_guest_120 : decode prog_14_method_68_code 120 = .ok (.iconst (-1), 1) := by decide +kernel
theorem d_Mod_guest_121 : decode prog_14_method_68_code 121 = .ok (.ireturn, 1) := by decide +kernel
theorem d_Mod_deed_0 : decode prog_14_method_69_code 0 = .ok (.aload_n 0, 1) := by decide +kernel
theorem d_Mod_deed_1 : decode prog_14_method_69_code 1 = .ok (.iload_n 1, 1) := by decide +kernel
theorem d_Mod_deed_2 : decode prog_14_method_69_code 2 = .ok (.invokevirtual 383, 3) := by decide +kernel
theorem d_Mod_deed_5 : decode prog_14_method_69_code 5 = .ok (.ifCond .ne 5, 3) := by decide +kernel
theorem d_Mod_deed_8 : decode prog_14_method_69_code 8 = .ok (.iconst (-1), 1) := by decide +kernel
theorem d_Mod_deed_9 : decode prog_14_method_69_code 9 = .ok (.ireturn, 1) := by decide +kernel
theorem d_Mod_deed_10 : decode prog_14_method_69_code 10 = .ok (.aload_n 0, 1) := by decide +kernel
theorem d_Mod_deed_11 : decode prog_14_method_69_code 11 = .ok (.invokevirtual 377, 3) := by decide +kernel
theorem d_Mod_deed_14 : decode prog_14_method_69_code 14 = .ok (.iload_n 2, 1) := by decide +kernel
theorem d_Mod_deed_15 : decode prog_14_method_69_code 15 = .ok (.tableswitch 99 0 2 #[25, 40, 55], 25) := by decide +kernel
theorem d_Mod_deed_40 : decode prog_14_method_69_code 40 = .ok (.aload_n 0, 1) := by decide +kernel
theorem d_Mod_deed_41 : decode prog_14_method_69_code 41 = .ok (.getfield 76, 3) := by decide +kernel
theorem d_Mod_deed_44 : decode prog_14_method_69_code 44 = .ok (.bipush 6, 2) := by decide +kernel
theorem d_Mod_deed_46 : decode prog_14_method_69_code 46 = .ok (.aload_n 0, 1) := by decide +kernel
theorem d_Mod_deed_47 : decode prog_14_method_69_code 47 = .ok (.getfield 236, 3) := by decide +kernel
theorem d_Mod_deed_50 : decode prog_14_method_69_code 50 = .ok (.imul, 1) := by decide +kernel
theorem d_Mod_deed_51 : decode prog_14_method_69_code 51 = .ok (.iload_n 1, 1) := by decide +kernel
theorem d_Mod_deed_52 : decode prog_14_method_69_code 52 = .ok (.iadd, 1) := by decide +kernel
theorem d_Mod_deed_53 : decode prog_14_method_69_code 53 = .ok (.iaload, 1) := by decide +kernel
theorem d_Mod_deed_54 : decode prog_14_method_69_code 54 = .ok (.ireturn, 1) := by decide +kernel
theorem d_Mod_deed_55 : decode prog_14_method_69_code 55 = .ok (.aload_n 0, 1) := by decide +kernel
theorem d_Mod_deed_56 : decode prog_14_method_69_code 56 = .ok (.getfield 79, 3) := by decide +kernel
theorem d_Mod_deed_59 : decode prog_14_method_69_code 59 = .ok (.bipush 6, 2) := by decide +kernel
theorem d_Mod_deed_61 : decode prog_14_method_69_code 61 = .ok (.aload_n 0, 1) := by decide +kernel
theorem d_Mod_deed_62 : decode prog_14_method_69_code 62 = .ok (.getfield 236, 3) := by decide +kernel
theorem d_Mod_deed_65 : decode prog_14_method_69_code 65 = .ok (.imul, 1) := by decide +kernel
theorem d_Mod_deed_66 : decode prog_14_method_69_code 66 = .ok (.iload_n 1, 1) := by decide +kernel
theorem d_Mod_deed_67 : decode prog_14_method_69_code 67 = .ok (.iadd, 1) := by decide +kernel
theorem d_Mod_deed_68 : decode prog_14_method_69_code 68 = .ok (.iaload, 1) := by decide +kernel
theorem d_Mod_deed_69 : decode prog_14_method_69_code 69 = .ok (.ireturn, 1) := by decide +kernel
theorem d_Mod_deed_70 : decode prog_14_method_69_code 70 = .ok (.iconst 0, 1) := by decide +kernel
theorem d_Mod_deed_71 : decode prog_14_method_69_code 71 = .ok (.istore_n 3, 1) := by decide +kernel
theorem d_Mod_deed_72 : decode prog_14_method_69_code 72 = .ok (.iconst 0, 1) := by decide +kernel
theorem d_Mod_deed_73 : decode prog_14_method_69_code 73 = .ok (.istore 4, 2) := by decide +kernel
theorem d_Mod_deed_75 : decode prog_14_method_69_code 75 = .ok (.iload 4, 2) := by decide +kernel
theorem d_Mod_deed_77 : decode prog_14_method_69_code 77 = .ok (.aload_n 0, 1) := by decide +kernel
theorem d_Mod_deed_78 : decode prog_14_method_69_code 78 = .ok (.getfield 67, 3) := by decide +kernel
theorem d_Mod_deed_81 : decode prog_14_method_69_code 81 = .ok (.aload_n 0, 1) := by decide +kernel
theorem d_Mod_deed_82 : decode prog_14_method_69_code 82 = .ok (.getfield 236, 3) := by decide +kernel
theorem d_Mod_deed_85 : decode prog_14_method_69_code 85 = .ok (.iaload, 1) := by decide +kernel
theorem d_Mod_deed_86 : decode prog_14_method_69_code 86 = .ok (.if_icmp .ge 26, 3) := by decide +kernel
theorem d_Mod_deed_89 : decode prog_14_method_69_code 89 = .ok (.aload_n 0, 1) := by decide +kernel
theorem d_Mod_deed_90 : decode prog_14_method_69_code 90 = .ok (.iload 4, 2) := by decide +kernel
theorem d_Mod_deed_92 : decode prog_14_method_69_code 92 = .ok (.iload_n 1, 1) := by decide +kernel
theorem d_Mod_deed_93 : decode prog_14_method_69_code 93 = .ok (.invokevirtual 352, 3) := by decide +kernel
theorem d_Mod_deed_96 : decode prog_14_method_69_code 96 = .ok (.ifCond .eq 10, 3) := by decide +kernel
theorem d_Mod_deed_99 : decode prog_14_method_69_code 99 = .ok (.iload_n 3, 1) := by decide +kernel
theorem d_Mod_deed_100 : decode prog_14_method_69_code 100 = .ok (.iconst 1, 1) := by decide +kernel
theorem d_Mod_deed_101 : decode prog_14_method_69_code 101 = .ok (.iload 4, 2) := by decide +kernel
theorem d_Mod_deed_103 : decode prog_14_method_69_code 103 = .ok (.ishl, 1) := by decide +kernel
theorem d_Mod_deed_104 : decode prog_14_method_69_code 104 = .ok (.ior, 1) := by decide +kernel
theorem d_Mod_deed_105 : decode prog_14_method_69_code 105 = .ok (.istore_n 3, 1) := by decide +kernel
theorem d_Mod_deed_106 : decode prog_14_method_69_code 106 = .ok (.iinc 4 1, 3) := by decide +kernel
theorem d_Mod_deed_109 : decode prog_14_method_69_code 109 = .ok (.goto (-34), 3) := by decide +kernel
theorem d_Mod_deed_112 : decode prog_14_method_69_code 112 = .ok (.iload_n 3, 1) := by decide +kernel
theorem d_Mod_deed_113 : decode prog_14_method_69_code 113 = .ok (.ireturn, 1) := by decide +kernel
theorem d_Mod_deed_114 : decode prog_14_method_69_code 114 = .ok (.iconst (-1), 1) := by decide +kernel
theorem d_Mod_deed_115 : decode prog_14_method_69_code 115 = .ok (.ireturn, 1) := by decide +kernel
theorem d_Mod_records_0 : decode prog_14_method_70_code 0 = .ok (.aload_n 0, 1) := by decide +kernel
theorem d_Mod_records_1 : decode prog_14_method_70_code 1 = .ok (.getfield 254, 3) := by decide +kernel
theorem d_Mod_records_4 : decode prog_14_method_70_code 4 = .ok (.bipush 40, 2) := by decide +kernel
theorem d_Mod_records_6 : decode prog_14_method_70_code 6 = .ok (.if_icmp .ne 43, 3) := by decide +kernel
theorem d_Mod_records_9 : decode prog_14_method_70_code 9 = .ok (.iconst 0, 1) := by decide +kernel
theorem d_Mod_records_10 : decode prog_14_method_70_code 10 = .ok (.istore_n 1, 1) := by decide +kernel
theorem d_Mod_records_11 : decode prog_14_method_70_code 11 = .ok (.iload_n 1, 1) := by decide +kernel
theorem d_Mod_records_12 : decode prog_14_method_70_code 12 = .ok (.sipush 1482, 3) := by decide +kernel
theorem d_Mod_records_15 : decode prog_14_method_70_code 15 = .ok (.if_icmp .ge 24, 3) := by decide +kernel
theorem d_Mod_records_18 : decode prog_14_method_70_code 18 = .ok (.aload_n 0, 1) := by decide +kernel
theorem d_Mod_records_19 : decode prog_14_method_70_code 19 = .ok (.getfield 134, 3) := by decide +kernel
theorem d_Mod_records_22 : decode prog_14_method_70_code 22 = .ok (.iload_n 1, 1) := by decide +kernel
theorem d_Mod_records_23 : decode prog_14_method_70_code 23 = .ok (.aload_n 0, 1) := by decide +kernel
theorem d_Mod_records_24 : decode prog_14_method_70_code 24 = .ok (.getfield 134, 3) := by decide +kernel
theorem d_Mod_records_27 : decode prog_14_method_70_code 27 = .ok (.iload_n 1, 1) := by decide +kernel
theorem d_Mod_records_28 : decode prog_14_method_70_code 28 = .ok (.bipush 38, 2) := by decide +kernel
theorem d_Mod_records_30 : decode prog_14_method_70_code 30 = .ok (.iadd, 1) := by decide +kernel
theorem d_Mod_records_31 : decode prog_14_method_70_code 31 = .ok (.iaload, 1) := by decide +kernel
theorem d_Mod_records_32 : decode prog_14_method_70_code 32 = .ok (.iastore, 1) := by decide +kernel
theorem d_Mod_records_33 : decode prog_14_method_70_code 33 = .ok (.iinc 1 1, 3) := by decide +kernel
theorem d_Mod_records_36 : decode prog_14_method_70_code 36 = .ok (.goto (-25), 3) := by decide +kernel
theorem d_Mod_records_39 : decode prog_14_method_70_code 39 = .ok (.aload_n 0, 1) := by decide +kernel
theorem d_Mod_records_40 : decode prog_14_method_70_code 40 = .ok (.dup, 1) := by decide +kernel
theorem d_Mod_records_41 : decode prog_14_method_70_code 41 = .ok (.getfield 254, 3) := by decide +kernel
theorem d_Mod_records_44 : decode prog_14_method_70_code 44 = .ok (.iconst 1, 1) := by decide +kernel
theorem d_Mod_records_45 : decode prog_14_method_70_code 45 = .ok (.isub, 1) := by decide +kernel
theorem d_Mod_records_46 : decode prog_14_method_70_code 46 = .ok (.putfield 254, 3) := by decide +kernel
theorem d_Mod_records_49 : decode prog_14_method_70_code 49 = .ok (.iconst 0, 1) := by decide +kernel
theorem d_Mod_records_50 : decode prog_14_method_70_code 50 = .ok (.istore_n 1, 1) := by decide +kernel
theorem d_Mod_records_51 : decode prog_14_method_70_code 51 = .ok (.iload_n 1, 1) := by decide +kernel
theorem d_Mod_records_52 : decode prog_14_method_70_code 52 = .ok (.bipush 38, 2) := by decide +kernel
theorem d_Mod_records_54 : decode prog_14_method_70_code 54 = .ok (.if_icmp .ge 29, 3) := by decide +kernel
theorem d_Mod_records_57 : decode prog_14_method_70_code 57 = .ok (.aload_n 0, 1) := by decide +kernel
theorem d_Mod_records_58 : decode prog_14_method_70_code 58 = .ok (.getfield 134, 3) := by decide +kernel
theorem d_Mod_records_61 : decode prog_14_method_70_code 61 = .ok (.bipush 38, 2) := by decide +kernel
theorem d_Mod_records_63 : decode prog_14_method_70_code 63 = .ok (.aload_n 0, 1) := by decide +kernel
theorem d_Mod_records_64 : decode prog_14_method_70_code 64 = .ok (.getfield 254, 3) := by decide +kernel
theorem d_Mod_records_67 : decode prog_14_method_70_code 67 = .ok (.imul, 1) := by decide +kernel
theorem d_Mod_records_68 : decode prog_14_method_70_code 68 = .ok (.iload_n 1, 1) := by decide +kernel
theorem d_Mod_records_69 : decode prog_14_method_70_code 69 = .ok (.iadd, 1) := by decide +kernel
theorem d_Mod_records_70 : decode prog_14_method_70_code 70 = .ok (.aload_n 0, 1) := by decide +kernel
theorem d_Mod_records_71 : decode prog_14_method_70_code 71 = .ok (.getfield 122, 3) := by decide +kernel
theorem d_Mod_records_74 : decode prog_14_method_70_code 74 = .ok (.iload_n 1, 1) := by decide +kernel
theorem d_Mod_records_75 : decode prog_14_method_70_code 75 = .ok (.iaload, 1) := by decide +kernel
theorem d_Mod_records_76 : decode prog_14_method_70_code 76 = .ok (.iastore, 1) := by decide +kernel
theorem d_Mod_records_77 : decode prog_14_method_70_code 77 = .ok (.iinc 1 1, 3) := by decide +kernel
theorem d_Mod_records_80 : decode prog_14_method_70_code 80 = .ok (.goto (-29), 3) := by decide +kernel
theorem d_Mod_records_83 : decode prog_14_method_70_code 83 = .ok (.aload_n 0, 1) := by decide +kernel
theorem d_Mod_records_84 : decode prog_14_method_70_code 84 = .ok (.dup, 1) := by decide +kernel
theorem d_Mod_records_85 : decode prog_14_method_70_code 85 = .ok (.getfield 254, 3) := by decide +kernel
theorem d_Mod_records_88 : decode prog_14_method_70_code 88 = .ok (.iconst 1, 1) := by decide +kernel
theorem d_Mod_records_89 : decode prog_14_method_70_code 89 = .ok (.iadd, 1) := by decide +kernel
theorem d_Mod_records_90 : decode prog_14_method_70_code 90 = .ok (.putfield 254, 3) := by decide +kernel
theorem d_Mod_records_93 : decode prog_14_method_70_code 93 = .ok (.aload_n 0, 1) := by decide +kernel
theorem d_Mod_records_94 : decode prog_14_method_70_code 94 = .ok (.invokevirtual 166, 3) := by decide +kernel
theorem d_Mod_records_97 : decode prog_14_method_70_code 97 = .ok (.return_, 1) := by decide +kernel
theorem d_Mod_cook_0 : decode prog_14_method_71_code 0 = .ok (.aload_n 0, 1) := by decide +kernel
theorem d_Mod_cook_1 : decode prog_14_method_71_code 1 = .ok (.iload_n 1, 1) := by decide +kernel
theorem d_Mod_cook_2 : decode prog_14_method_71_code 2 = .ok (.invokevirtual 374, 3) := by decide +kernel
theorem d_Mod_cook_5 : decode prog_14_method_71_code 5 = .ok (.ifCond .ne 5, 3) := by decide +kernel
theorem d_Mod_cook_8 : decode prog_14_method_71_code 8 = .ok (.iconst (-1), 1) := by decide +kernel
theorem d_Mod_cook_9 : decode prog_14_method_71_code 9 = .ok (.ireturn, 1) := by decide +kernel
theorem d_Mod_cook_10 : decode prog_14_method_71_code 10 = .ok (.aload_n 0, 1) := by decide +kernel
theorem d_Mod_cook_11 : decode prog_14_method_71_code 11 = .ok (.invokevirtual 377, 3) := by decide +kernel
theorem d_Mod_cook_14 : decode prog_14_method_71_code 14 = .ok (.aload_n 0, 1) := by decide +kernel
theorem d_Mod_cook_15 : decode prog_14_method_71_code 15 = .ok (.iload_n 1, 1) := by decide +kernel
theorem d_Mod_cook_16 : decode prog_14_method_71_code 16 = .ok (.invokevirtual 386, 3) := by decide +kernel
theorem d_Mod_cook_19 : decode prog_14_method_71_code 19 = .ok (.ifCond .ne 6, 3) := by decide +kernel
theorem d_Mod_cook_22 : decode prog_14_method_71_code 22 = .ok (.bipush (-3), 2) := by decide +kernel
theorem d_Mod_cook_24 : decode prog_14_method_71_code 24 = .ok (.ireturn, 1) := by decide +kernel
theorem d_Mod_cook_25 : decode prog_14_method_71_code 25 = .ok (.aload_n 0, 1) := by decide +kernel
theorem d_Mod_cook_26 : decode prog_14_method_71_code 26 = .ok (.iload_n 1, 1) := by decide +kernel
theorem d_Mod_cook_27 : decode prog_14_method_71_code 27 = .ok (.invokevirtual 389, 3) := by decide +kernel
theorem d_Mod_cook_30 : decode prog_14_method_71_code 30 = .ok (.istore_n 2, 1) := by decide +kernel
theorem d_Mod_cook_31 : decode prog_14_method_71_code 31 = .ok (.aload_n 0, 1) := by decide +kernel
theorem d_Mod_cook_32 : decode prog_14_method_71_code 32 = .ok (.invokevirtual 392, 3) := by decide +kernel
theorem d_Mod_cook_35 : decode prog_14_method_71_code 35 = .ok (.iload_n 2, 1) := by decide +kernel
theorem d_Mod_cook_36 : decode prog_14_method_71_code 36 = .ok (.ireturn, 1) := by decide +kernel
theorem d_Mod_eat_0 : decode prog_14_method_72_code 0 = .ok (.aload_n 0, 1) := by decide +kernel
theorem d_Mod_eat_1 : decode prog_14_method_72_code 1 = .ok (.iload_n 1, 1) := by decide +kernel
theorem d_Mod_eat_2 : decode prog_14_method_72_code 2 = .ok (.invokevirtual 380, 3) := by decide +kernel
theorem d_Mod_eat_5 : decode prog_14_method_72_code 5 = .ok (.ifCond .ne 5, 3) := by decide +kernel
theorem d_Mod_eat_8 : decode prog_14_method_72_code 8 = .ok (.iconst (-1), 1) := by decide +kernel
theorem d_Mod_eat_9 : decode prog_14_method_72_code 9 = .ok (.ireturn, 1) := by decide +kernel
theorem d_Mod_eat_10 : decode prog_14_method_72_code 10 = .ok (.aload_n 0, 1) := by decide +kernel
theorem d_Mod_eat_11 : decode prog_14_method_72_code 11 = .ok (.invokevirtual 377, 3) := by decide +kernel
theorem d_Mod_eat_14 : decode prog_14_method_72_code 14 = .ok (.aload_n 0, 1) := by decide +kernel
theorem d_Mod_eat_15 : decode prog_14_method_72_code 15 = .ok (.getfield 125, 3) := by decide +kernel
theorem d_Mod_eat_18 : decode prog_14_method_72_code 18 = .ok (.bipush 11, 2) := by decide +kernel
theorem d_Mod_eat_20 : decode prog_14_method_72_code 20 = .ok (.iaload, 1) := by decide +kernel
theorem d_Mod_eat_21 : decode prog_14_method_72_code 21 = .ok (.ifCond .ge 6, 3) := by decide +kernel
theorem d_Mod_eat_24 : decode prog_14_method_72_code 24 = .ok (.bipush (-2), 2) := by decide +kernel
theorem d_Mod_eat_26 : decode prog_14_method_72_code 26 = .ok (.ireturn, 1) := by decide +kernel
theorem d_Mod_eat_27 : decode prog_14_method_72_code 27 = .ok (.aload_n 0, 1) := by decide +kernel
theorem d_Mod_eat_28 : decode prog_14_method_72_code 28 = .ok (.getfield 125, 3) := by decide +kernel
theorem d_Mod_eat_31 : decode prog_14_method_72_code 31 = .ok (.bipush 15, 2) := by decide +kernel
theorem d_Mod_eat_33 : decode prog_14_method_72_code 33 = .ok (.iload_n 1, 1) := by decide +kernel
theorem d_Mod_eat_34 : decode prog_14_method_72_code 34 = .ok (.iadd, 1) := by decide +kernel
theorem d_Mod_eat_35 : decode prog_14_method_72_code 35 = .ok (.aload_n 0, 1) := by decide +kernel
theorem d_Mod_eat_36 : decode prog_14_method_72_code 36 = .ok (.getfield 125, 3) := by decide +kernel
theorem d_Mod_eat_39 : decode prog_14_method_72_code 39 = .ok (.bipush 35, 2) := by decide +kernel
theorem d_Mod_eat_41 : decode prog_14_method_72_code 41 = .ok (.iaload, 1) := by decide +kernel
theorem d_Mod_eat_42 : decode prog_14_method_72_code 42 = .ok (.iastore, 1) := by decide +kernel
theorem d_Mod_eat_43 : decode prog_14_method_72_code 43 = .ok (.iconst 0, 1) := by decide +kernel
theorem d_Mod_eat_44 : decode prog_14_method_72_code 44 = .ok (.istore_n 2, 1) := by decide +kernel
theorem d_Mod_eat_45 : decode prog_14_method_72_code 45 = .ok (.iload_n 2, 1) := by decide +kernel
theorem d_Mod_eat_46 : decode prog_14_method_72_code 46 = .ok (.iconst 3, 1) := by decide +kernel
theorem d_Mod_eat_47 : decode prog_14_method_72_code 47 = .ok (.if_icmp .ge 31, 3) := by decide +kernel
theorem d_Mod_eat_50 : decode prog_14_method_72_code 50 = .ok (.aload_n 0, 1) := by decide +kernel
theorem d_Mod_eat_51 : decode prog_14_method_72_code 51 = .ok (.getfield 125, 3) := by decide +kernel
theorem d_Mod_eat_54 : decode prog_14_method_72_code 54 = .ok (.bipush 19, 2) := by decide +kernel
theorem d_Mod_eat_56 : decode prog_14_method_72_code 56 = .ok (.iconst 3, 1) := by decide +kernel
theorem d_Mod_eat_57 : decode prog_14_method_72_code 57 = .ok (.iload_n 1, 1) := by decide +kernel
theorem d_Mod_eat_58 : decode prog_14_method_72_code 58 = .ok (.imul, 1) := by decide +kernel
theorem d_Mod_eat_59 : decode prog_14_method_72_code 59 = .ok (.iadd, 1) := by decide +kernel
theorem d_Mod_eat_60 : decode prog_14_method_72_code 60 = .ok (.iload_n 2, 1) := by decide +kernel
theorem d_Mod_eat_61 : decode prog_14_method_72_code 61 = .ok (.iadd, 1) := by decide +kernel
theorem d_Mod_eat_62 : decode prog_14_method_72_code 62 = .ok (.aload_n 0, 1) := by decide +kernel
theorem d_Mod_eat_63 : decode prog_14_method_72_code 63 = .ok (.getfield 125, 3) := by decide +kernel
theorem d_Mod_eat_66 : decode prog_14_method_72_code 66 = .ok (.bipush 12, 2) := by decide +kernel
theorem d_Mod_eat_68 : decode prog_14_method_72_code 68 = .ok (.iload_n 2, 1) := by decide +kernel
theorem d_Mod_eat_69 : decode prog_14_method_72_code 69 = .ok (.iadd, 1) := by decide +kernel
theorem d_Mod_eat_70 : decode prog_14_method_72_code 70 = .ok (.iaload, 1) := by decide +kernel
theorem d_Mod_eat_71 : decode prog_14_method_72_code 71 = .ok (.iastore, 1) := by decide +kernel
theorem d_Mod_eat_72 : decode prog_14_method_72_code 72 = .ok (.iinc 2 1, 3) := by decide +kernel
theorem d_Mod_eat_75 : decode prog_14_method_72_code 75 = .ok (.goto (-30), 3) := by decide +kernel
theorem d_Mod_eat_78 : decode prog_14_method_72_code 78 = .ok (.aload_n 0, 1) := by decide +kernel
theorem d_Mod_eat_79 : decode prog_14_method_72_code 79 = .ok (.getfield 125, 3) := by decide +kernel
theorem d_Mod_eat_82 : decode prog_14_method_72_code 82 = .ok (.bipush 31, 2) := by decide +kernel
theorem d_Mod_eat_84 : decode prog_14_method_72_code 84 = .ok (.iload_n 1, 1) := by decide +kernel
theorem d_Mod_eat_85 : decode prog_14_method_72_code 85 = .ok (.iadd, 1) := by decide +kernel
theorem d_Mod_eat_86 : decode prog_14_method_72_code 86 = .ok (.dup2, 1) := by decide +kernel
theorem d_Mod_eat_87 : decode prog_14_method_72_code 87 = .ok (.iaload, 1) := by decide +kernel
theorem d_Mod_eat_88 : decode prog_14_method_72_code 88 = .ok (.iconst 1, 1) := by decide +kernel
theorem d_Mod_eat_89 : decode prog_14_method_72_code 89 = .ok (.iadd, 1) := by decide +kernel
theorem d_Mod_eat_90 : decode prog_14_method_72_code 90 = .ok (.iastore, 1) := by decide +kernel
theorem d_Mod_eat_91 : decode prog_14_method_72_code 91 = .ok (.aload_n 0, 1) := by decide +kernel
theorem d_Mod_eat_92 : decode prog_14_method_72_code 92 = .ok (.invokevirtual 392, 3) := by decide +kernel
theorem d_Mod_eat_95 : decode prog_14_method_72_code 95 = .ok (.aload_n 0, 1) := by decide +kernel
theorem d_Mod_eat_96 : decode prog_14_method_72_code 96 = .ok (.iload_n 1, 1) := by decide +kernel
theorem d_Mod_eat_97 : decode prog_14_method_72_code 97 = .ok (.invokevirtual 395, 3) := by decide +kernel
theorem d_Mod_eat_100 : decode prog_14_method_72_code 100 = .ok (.ireturn, 1) := by decide +kernel
theorem d_Mod_days_0 : decode prog_14_method_73_code 0 = .ok (.iload_n 1, 1) := by decide +kernel
theorem d_Mod_days_1 : decode prog_14_method_73_code 1 = .ok (.iconst 0, 1) := by decide +kernel
theorem d_Mod_days_2 : decode prog_14_method_73_code 2 = .ok (.bipush 60, 2) := by decide +kernel
theorem d_Mod_days_4 : decode prog_14_method_73_code 4 = .ok (.invokestatic 316, 3) := by decide +kernel
theorem d_Mod_days_7 : decode prog_14_method_73_code 7 = .ok (.ifCond .ne 5, 3) := by decide +kernel
theorem d_Mod_days_10 : decode prog_14_method_73_code 10 = .ok (.iconst (-1), 1) := by decide +kernel
theorem d_Mod_days_11 : decode prog_14_method_73_code 11 = .ok (.ireturn, 1) := by decide +kernel
theorem d_Mod_days_12 : decode prog_14_method_73_code 12 = .ok (.iload_n 1, 1) := by decide +kernel
theorem d_Mod_days_13 : decode prog_14_method_73_code 13 = .ok (.ifCond .ne 11, 3) := by decide +kernel
theorem d_Mod_days_16 : decode prog_14_method_73_code 16 = .ok (.aload_n 0, 1) := by decide +kernel
theorem d_Mod_days_17 : decode prog_14_method_73_code 17 = .ok (.getfield 122, 3) := by decide +kernel
theorem d_Mod_days_20 : decode prog_14_method_73_code 20 = .ok (.bipush 35, 2) := by decide +kernel
theorem d_Mod_days_22 : decode prog_14_method_73_code 22 = .ok (.iaload, 1) := by decide +kernel
theorem d_Mod_days_23 : decode prog_14_method_73_code 23 = .ok (.ireturn, 1) := by decide +kernel
theorem d_Mod_days_24 : decode prog_14_method_73_code 24 = .ok (.aload_n 0, 1) := by decide +kernel
theorem d_Mod_days_25 : decode prog_14_method_73_code 25 = .ok (.invokevirtual 377, 3) := by decide +kernel
theorem d_Mod_days_28 : decode prog_14_method_73_code 28 = .ok (.aload_n 0, 1) := by decide +kernel
theorem d_Mod_days_29 : decode prog_14_method_73_code 29 = .ok (.iload_n 1, 1) := by decide +kernel
theorem d_Mod_days_30 : decode prog_14_method_73_code 30 = .ok (.invokevirtual 398, 3) := by decide +kernel
theorem d_Mod_days_33 : decode prog_14_method_73_code 33 = .ok (.aload_n 0, 1) := by decide +kernel
theorem d_Mod_days_34 : decode prog_14_method_73_code 34 = .ok (.invokevirtual 392, 3) := by decide +kernel
theorem d_Mod_days_37 : decode prog_14_method_73_code 37 = .ok (.aload_n 0, 1) := by decide +kernel
theorem d_Mod_days_38 : decode prog_14_method_73_code 38 = .ok (.getfield 122, 3) := by decide +kernel
theorem d_Mod_days_41 : decode prog_14_method_73_code 41 = .ok (.bipush 35, 2) := by decide +kernel
theorem d_Mod_days_43 : decode prog_14_method_73_code 43 = .ok (.iaload, 1) := by decide +kernel
theorem d_Mod_days_44 : decode prog_14_method_73_code 44 = .ok (.ireturn, 1) := by decide +kernel
theorem d_Mod_undo_0 : decode prog_14_method_74_code 0 = .ok (.aload_n 0, 1) := by decide +kernel
theorem d_Mod_undo_1 : decode prog_14_method_74_code 1 = .ok (.getfield 254, 3) := by decide +kernel
theorem d_Mod_undo_4 : decode prog_14_method_74_code 4 = .ok (.ifCond .ne 5, 3) := by decide +kernel
theorem d_Mod_undo_7 : decode prog_14_method_74_code 7 = .ok (.iconst 0, 1) := by decide +kernel
theorem d_Mod_undo_8 : decode prog_14_method_74_code 8 = .ok (.ireturn, 1) := by decide +kernel
theorem d_Mod_undo_9 : decode prog_14_method_74_code 9 = .ok (.aload_n 0, 1) := by decide +kernel
theorem d_Mod_undo_10 : decode prog_14_method_74_code 10 = .ok (.dup, 1) := by decide +kernel
theorem d_Mod_undo_11 : decode prog_14_method_74_code 11 = .ok (.getfield 254, 3) := by decide +kernel
theorem d_Mod_undo_14 : decode prog_14_method_74_code 14 = .ok (.iconst 1, 1) := by decide +kernel
theorem d_Mod_undo_15 : decode prog_14_method_74_code 15 = .ok (.isub, 1) := by decide +kernel
theorem d_Mod_undo_16 : decode prog_14_method_74_code 16 = .ok (.putfield 254, 3) := by decide +kernel
theorem d_Mod_undo_19 : decode prog_14_method_74_code 19 = .ok (.iconst 0, 1) := by decide +kernel
theorem d_Mod_undo_20 : decode prog_14_method_74_code 20 = .ok (.istore_n 1, 1) := by decide +kernel
theorem d_Mod_undo_21 : decode prog_14_method_74_code 21 = .ok (.iload_n 1, 1) := by decide +kernel
theorem d_Mod_undo_22 : decode prog_14_method_74_code 22 = .ok (.bipush 38, 2) := by decide +kernel
theorem d_Mod_undo_24 : decode prog_14_method_74_code 24 = .ok (.if_icmp .ge 29, 3) := by decide +kernel
theorem d_Mod_undo_27 : decode prog_14_method_74_code 27 = .ok (.aload_n 0, 1) := by decide +kernel
theorem d_Mod_undo_28 : decode prog_14_method_74_code 28 = .ok (.getfield 122, 3) := by decide +kernel
theorem d_Mod_undo_31 : decode prog_14_method_74_code 31 = .ok (.iload_n 1, 1) := by decide +kernel
theorem d_Mod_undo_32 : decode prog_14_method_74_code 32 = .ok (.aload_n 0, 1) := by decide +kernel
theorem d_Mod_undo_33 : decode prog_14_method_74_code 33 = .ok (.getfield 134, 3) := by decide +kernel
theorem d_Mod_undo_36 : decode prog_14_method_74_code 36 = .ok (.bipush 38, 2) := by decide +kernel
theorem d_Mod_undo_38 : decode prog_14_method_74_code 38 = .ok (.aload_n 0, 1) := by decide +kernel
theorem d_Mod_undo_39 : decode prog_14_method_74_code 39 = .ok (.getfield 254, 3) := by decide +kernel
theorem d_Mod_undo_42 : decode prog_14_method_74_code 42 = .ok (.imul, 1) := by decide +kernel
theorem d_Mod_undo_43 : decode prog_14_method_74_code 43 = .ok (.iload_n 1, 1) := by decide +kernel
theorem d_Mod_undo_44 : decode prog_14_method_74_code 44 = .ok (.iadd, 1) := by decide +kernel
theorem d_Mod_undo_45 : decode prog_14_method_74_code 45 = .ok (.iaload, 1) := by decide +kernel
theorem d_Mod_undo_46 : decode prog_14_method_74_code 46 = .ok (.iastore, 1) := by decide +kernel
theorem d_Mod_undo_47 : decode prog_14_method_74_code 47 = .ok (.iinc 1 1, 3) := by decide +kernel
theorem d_Mod_undo_50 : decode prog_14_method_74_code 50 = .ok (.goto (-29), 3) := by decide +kernel
theorem d_Mod_undo_53 : decode prog_14_method_74_code 53 = .ok (.iconst 1, 1) := by decide +kernel
theorem d_Mod_undo_54 : decode prog_14_method_74_code 54 = .ok (.ireturn, 1) := by decide +kernel
theorem d_Mod_sevens_0 : decode prog_14_method_75_code 0 = .ok (.iconst 1, 1) := by decide +kernel
theorem d_Mod_sevens_1 : decode prog_14_method_75_code 1 = .ok (.istore_n 1, 1) := by decide +kernel
theorem d_Mod_sevens_2 : decode prog_14_method_75_code 2 = .ok (.iconst 0, 1) := by decide +kernel
theorem d_Mod_sevens_3 : decode prog_14_method_75_code 3 = .ok (.istore_n 2, 1) := by decide +kernel
theorem d_Mod_sevens_4 : decode prog_14_method_75_code 4 = .ok (.iload_n 2, 1) := by decide +kernel
theorem d_Mod_sevens_5 : decode prog_14_method_75_code 5 = .ok (.iload_n 0, 1) := by decide +kernel
theorem d_Mod_sevens_6 : decode prog_14_method_75_code 6 = .ok (.if_icmp .ge 14, 3) := by decide +kernel
theorem d_Mod_sevens_9 : decode prog_14_method_75_code 9 = .ok (.iload_n 1, 1) := by decide +kernel
theorem d_Mod_sevens_10 : decode prog_14_method_75_code 10 = .ok (.bipush 7, 2) := by decide +kernel
theorem d_Mod_sevens_12 : decode prog_14_method_75_code 12 = .ok (.imul, 1) := by decide +kernel
theorem d_Mod_sevens_13 : decode prog_14_method_75_code 13 = .ok (.istore_n 1, 1) := by decide +kernel
theorem d_Mod_sevens_14 : decode prog_14_method_75_code 14 = .ok (.iinc 2 1, 3) := by decide +kernel
theorem d_Mod_sevens_17 : decode prog_14_method_75_code 17 = .ok (.goto (-13), 3) := by decide +kernel
theorem d_Mod_sevens_20 : decode prog_14_method_75_code 20 = .ok (.iload_n 1, 1) := by decide +kernel
theorem d_Mod_sevens_21 : decode prog_14_method_75_code 21 = .ok (.ireturn, 1) := by decide +kernel
theorem d_Mod_isPot_0 : decode prog_14_method_76_code 0 = .ok (.iconst 0, 1) := by decide +kernel
theorem d_Mod_isPot_1 : decode prog_14_method_76_code 1 = .ok (.istore_n 2, 1) := by decide +kernel
theorem d_Mod_isPot_2 : decode prog_14_method_76_code 2 = .ok (.iload_n 2, 1) := by decide +kernel
theorem d_Mod_isPot_3 : decode prog_14_method_76_code 3 = .ok (.bipush 6, 2) := by decide +kernel
theorem d_Mod_isPot_5 : decode prog_14_method_76_code 5 = .ok (.if_icmp .ge 65, 3) := by decide +kernel
theorem d_Mod_isPot_8 : decode prog_14_method_76_code 8 = .ok (.aload_n 0, 1) := by decide +kernel
theorem d_Mod_isPot_9 : decode prog_14_method_76_code 9 = .ok (.getfield 128, 3) := by decide +kernel
theorem d_Mod_isPot_12 : decode prog_14_method_76_code 12 = .ok (.iload_n 2, 1) := by decide +kernel
theorem d_Mod_isPot_13 : decode prog_14_method_76_code 13 = .ok (.iload_n 1, 1) := by decide +kernel
theorem d_Mod_isPot_14 : decode prog_14_method_76_code 14 = .ok (.iconst 5, 1) := by decide +kernel
theorem d_Mod_isPot_15 : decode prog_14_method_76_code 15 = .ok (.iload_n 2, 1) := by decide +kernel
theorem d_Mod_isPot_16 : decode prog_14_method_76_code 16 = .ok (.isub, 1) := by decide +kernel
theorem d_Mod_isPot_17 : decode prog_14_method_76_code 17 = .ok (.invokestatic 401, 3) := by decide +kernel
theorem d_Mod_isPot_20 : decode prog_14_method_76_code 20 = .ok (.idiv, 1) := by decide +kernel
theorem d_Mod_isPot_21 : decode prog_14_method_76_code 21 = .ok (.bipush 7, 2) := by decide +kernel
theorem d_Mod_isPot_23 : decode prog_14_method_76_code 23 = .ok (.irem, 1) := by decide +kernel
theorem d_Mod_isPot_24 : decode prog_14_method_76_code 24 = .ok (.iastore, 1) := by decide +kernel
theorem d_Mod_isPot_25 : decode prog_14_method_76_code 25 = .ok (.aload_n 0, 1) := by decide +kernel
theorem d_Mod_isPot_26 : decode prog_14_method_76_code 26 = .ok (.getfield 128, 3) := by decide +kernel
theorem d_Mod_isPot_29 : decode prog_14_method_76_code 29 = .ok (.iload_n 2, 1) := by decide +kernel
theorem d_Mod_isPot_30 : decode prog_14_method_76_code 30 = .ok (.iaload, 1) := by decide +kernel
theorem d_Mod_isPot_31 : decode prog_14_method_76_code 31 = .ok (.ifCond .le 33, 3) := by decide +kernel
theorem d_Mod_isPot_34 : decode prog_14_method_76_code 34 = .ok (.iload_n 2, 1) := by decide +kernel
theorem d_Mod_isPot_35 : decode prog_14_method_76_code 35 = .ok (.aload_n 0, 1) := by decide +kernel
theorem d_Mod_isPot_36 : decode prog_14_method_76_code 36 = .ok (.getfield 46, 3) := by decide +kernel
theorem d_Mod_isPot_39 : decode prog_14_method_76_code 39 = .ok (.aload_n 0, 1) := by decide +kernel
theorem d_Mod_isPot_40 : decode prog_14_method_76_code 40 = .ok (.getfield 236, 3) := by decide +kernel
theorem d_Mod_isPot_43 : decode prog_14_method_76_code 43 = .ok (.iaload, 1) := by decide +kernel
theorem d_Mod_isPot_44 : decode prog_14_method_76_code 44 = .ok (.if_icmp .ge 18, 3) := by decide +kernel
theorem d_Mod_isPot_47 : decode prog_14_method_76_code 47 = .ok (.aload_n 0, 1) := by decide +kernel
theorem d_Mod_isPot_48 : decode prog_14_method_76_code 48 = .ok (.getfield 128, 3) := by decide +kernel
theorem d_Mod_isPot_51 : decode prog_14_method_76_code 51 = .ok (.iload_n 2, 1) := by decide +kernel
theorem d_Mod_isPot_52 : decode prog_14_method_76_code 52 = .ok (.iaload, 1) := by decide +kernel
theorem d_Mod_isPot_53 : decode prog_14_method_76_code 53 = .ok (.aload_n 0, 1) := by decide +kernel
theorem d_Mod_isPot_54 : decode prog_14_method_76_code 54 = .ok (.getfield 125, 3) := by decide +kernel
theorem d_Mod_isPot_57 : decode prog_14_method_76_code 57 = .ok (.iload_n 2, 1) := by decide +kernel
theorem d_Mod_isPot_58 : decode prog_14_method_76_code 58 = .ok (.iaload, 1) := by decide +kernel
theorem d_Mod_isPot_59 : decode prog_14_method_76_code 59 = .ok (.if_icmp .le 5, 3) := by decide +kernel
theorem d_Mod_isPot_62 : decode prog_14_method_76_code 62 = .ok (.iconst 0, 1) := by decide +kernel
theorem d_Mod_isPot_63 : decode prog_14_method_76_code 63 = .ok (.ireturn, 1) := by decide +kernel
theorem d_Mod_isPot_64 : decode prog_14_method_76_code 64 = .ok (.iinc 2 1, 3) := by decide +kernel
theorem d_Mod_isPot_67 : decode prog_14_method_76_code 67 = .ok (.goto (-65), 3) := by decide +kernel
theorem d_Mod_isPot_70 : decode prog_14_method_76_code 70 = .ok (.aload_n 0, 1) := by decide +kernel
theorem d_Mod_isPot_71 : decode prog_14_method_76_code 71 = .ok (.invokevirtual 339, 3) := by decide +kernel
theorem d_Mod_isPot_74 : decode prog_14_method_76_code 74 = .ok (.iconst 1, 1) := by decide +kernel
theorem d_Mod_isPot_75 : decode prog_14_method_76_code 75 = .ok (.bipush 6, 2) := by decide +kernel
theorem d_Mod_isPot_77 : decode prog_14_method_76_code 77 = .ok (.invokestatic 316, 3) := by decide +kernel
theorem d_Mod_isPot_80 : decode prog_14_method_76_code 80 = .ok (.ireturn, 1) := by decide +kernel
theorem d_Mod_potAt_0 : decode prog_14_method_77_code 0 = .ok (.iconst 0, 1) := by decide +kernel
theorem d_Mod_potAt_1 : decode prog_14_method_77_code 1 = .ok (.istore 4, 2) := by decide +kernel
theorem d_Mod_potAt_3 : decode prog_14_method_77_code 3 = .ok (.iload 4, 2) := by decide +kernel
theorem d_Mod_potAt_5 : decode prog_14_method_77_code 5 = .ok (.bipush 9, 2) := by decide +kernel
theorem d_Mod_potAt_7 : decode prog_14_method_77_code 7 = .ok (.if_icmp .gt 45, 3) := by decide +kernel
theorem d_Mod_potAt_10 : decode prog_14_method_77_code 10 = .ok (.aload_n 0, 1) := by decide +kernel
theorem d_Mod_potAt_11 : decode prog_14_method_77_code 11 = .ok (.iconst 0, 1) := by decide +kernel
theorem d_Mod_potAt_12 : decode prog_14_method_77_code 12 = .ok (.iload 4, 2) := by decide +kernel
theorem d_Mod_potAt_14 : decode prog_14_method_77_code 14 = .ok (.invokevirtual 359, 3) := by decide +kernel
theorem d_Mod_potAt_17 : decode prog_14_method_77_code 17 = .ok (.iload_n 1, 1) := by decide +kernel
theorem d_Mod_potAt_18 : decode prog_14_method_77_code 18 = .ok (.if_icmp .lt 28, 3) := by decide +kernel
theorem d_Mod_potAt_21 : decode prog_14_method_77_code 21 = .ok (.aload_n 0, 1) := by decide +kernel
theorem d_Mod_potAt_22 : decode prog_14_method_77_code 22 = .ok (.iconst 1, 1) := by decide +kernel
theorem d_Mod_potAt_23 : decode prog_14_method_77_code 23 = .ok (.iload 4, 2) := by decide +kernel
theorem d_Mod_potAt_25 : decode prog_14_method_77_code 25 = .ok (.invokevirtual 359, 3) := by decide +kernel
theorem d_Mod_potAt_28 : decode prog_14_method_77_code 28 = .ok (.iload_n 2, 1) := by decide +kernel
theorem d_Mod_potAt_29 : decode prog_14_method_77_code 29 = .ok (.if_icmp .lt 17, 3) := by decide +kernel
theorem d_Mod_potAt_32 : decode prog_14_method_77_code 32 = .ok (.aload_n 0, 1) := by decide +kernel
theorem d_Mod_potAt_33 : decode prog_14_method_77_code 33 = .ok (.iconst 2, 1) := by decide +kernel
theorem d_Mod_potAt_34 : decode prog_14_method_77_code 34 = .ok (.iload 4, 2) := by decide +kernel
theorem d_Mod_potAt_36 : decode prog_14_method_77_code 36 = .ok (.invokevirtual 359, 3) := by decide +kernel
theorem d_Mod_potAt_39 : decode prog_14_method_77_code 39 = .ok (.iload_n 3, 1) := by decide +kernel
theorem d_Mod_potAt_40 : decode prog_14_method_77_code 40 = .ok (.if_icmp .lt 6, 3) := by decide +kernel
theorem d_Mod_potAt_43 : decode prog_14_method_77_code 43 = .ok (.iload 4, 2) := by decide +kernel
theorem d_Mod_potAt_45 : decode prog_14_method_77_code 45 = .ok (.ireturn, 1) := by decide +kernel
theorem d_Mod_potAt_46 : decode prog_14_method_77_code 46 = .ok (.iinc 4 1, 3) := by decide +kernel
theorem d_Mod_potAt_49 : decode prog_14_method_77_code 49 = .ok (.goto (-46), 3) := by decide +kernel
theorem d_Mod_potAt_52 : decode prog_14_method_77_code 52 = .ok (.iconst (-1), 1) := by decide +kernel
theorem d_Mod_potAt_53 : decode prog_14_method_77_code 53 = .ok (.ireturn, 1) := by decide +kernel
theorem d_Mod_isBetter_0 : decode prog_14_method_78_code 0 = .ok (.aload_n 0, 1) := by decide +kernel
theorem d_Mod_isBetter_1 : decode prog_14_method_78_code 1 = .ok (.getfield 404, 3) := by decide +kernel
theorem d_Mod_isBetter_4 : decode prog_14_method_78_code 4 = .ok (.ifCond .ge 5, 3) := by decide +kernel
theorem d_Mod_isBetter_7 : decode prog_14_method_78_code 7 = .ok (.iconst 1, 1) := by decide +kernel
theorem d_Mod_isBetter_8 : decode prog_14_method_78_code 8 = .ok (.ireturn, 1) := by decide +kernel
theorem d_Mod_isBetter_9 : decode prog_14_method_78_code 9 = .ok (.aload_n 0, 1) := by decide +kernel
theorem d_Mod_isBetter_10 : decode prog_14_method_78_code 10 = .ok (.invokevirtual 362, 3) := by decide +kernel
theorem d_Mod_isBetter_13 : decode prog_14_method_78_code 13 = .ok (.aload_n 0, 1) := by decide +kernel
theorem d_Mod_isBetter_14 : decode prog_14_method_78_code 14 = .ok (.getfield 407, 3) := by decide +kernel
theorem d_Mod_isBetter_17 : decode prog_14_method_78_code 17 = .ok (.if_icmp .eq 20, 3) := by decide +kernel
theorem d_Mod_isBetter_20 : decode prog_14_method_78_code 20 = .ok (.aload_n 0, 1) := by decide +kernel
theorem d_Mod_isBetter_21 : decode prog_14_method_78_code 21 = .ok (.invokevirtual 362, 3) := by decide +kernel
theorem d_Mod_isBetter_24 : decode prog_14_method_78_code 24 = .ok (.aload_n 0, 1) := by decide +kernel
theorem d_Mod_isBetter_25 : decode prog_14_method_78_code 25 = .ok (.getfield 407, 3) := by decide +kernel
theorem d_Mod_isBetter_28 : decode prog_14_method_78_code 28 = .ok (.if_icmp .ge 7, 3) := by decide +kernel
theorem d_Mod_isBetter_31 : decode prog_14_method_78_code 31 = .ok (.iconst 1, 1) := by decide +kernel
theorem d_Mod_isBetter_32 : decode prog_14_method_78_code 32 = .ok (.goto 4, 3) := by decide +kernel
theorem d_Mod_isBetter_35 : decode prog_14_method_78_code 35 = .ok (.iconst 0, 1) := by decide +kernel
theorem d_Mod_isBetter_36 : decode prog_14_method_78_code 36 = .ok (.ireturn, 1) := by decide +kernel
theorem d_Mod_isBetter_37 : decode prog_14_method_78_code 37 = .ok (.aload_n 0, 1) := by decide +kernel
theorem d_Mod_isBetter_38 : decode prog_14_method_78_code 38 = .ok (.invokevirtual 339, 3) := by decide +kernel
theorem d_Mod_isBetter_41 : decode prog_14_method_78_code 41 = .ok (.aload_n 0, 1) := by decide +kernel
theorem d_Mod_isBetter_42 : decode prog_14_method_78_code 42 = .ok (.getfield 410, 3) := by decide +kernel
theorem d_Mod_isBetter_45 : decode prog_14_method_78_code 45 = .ok (.if_icmp .eq 20, 3) := by decide +kernel
theorem d_Mod_isBetter_48 : decode prog_14_method_78_code 48 = .ok (.aload_n 0, 1) := by decide +kernel
theorem d_Mod_isBetter_49 : decode prog_14_method_78_code 49 = .ok (.invokevirtual 339, 3) := by decide +kernel
theorem d_Mod_isBetter_52 : decode prog_14_method_78_code 52 = .ok (.aload_n 0, 1) := by decide +kernel
theorem d_Mod_isBetter_53 : decode prog_14_method_78_code 53 = .ok (.getfield 410, 3) := by decide +kernel
theorem d_Mod_isBetter_56 : decode prog_14_method_78_code 56 = .ok (.if_icmp .ge 7, 3) := by decide +kernel
theorem d_Mod_isBetter_59 : decode prog_14_method_78_code 59 = .ok (.iconst 1, 1) := by decide +kernel
theorem d_Mod_isBetter_60 : decode prog_14_method_78_code 60 = .ok (.goto 4, 3) := by decide +kernel
theorem d_Mod_isBetter_63 : decode prog_14_method_78_code 63 = .ok (.iconst 0, 1) := by decide +kernel
theorem d_Mod_isBetter_64 : decode prog_14_method_78_code 64 = .ok (.ireturn, 1) := by decide +kernel
theorem d_Mod_isBetter_65 : decode prog_14_method_78_code 65 = .ok (.iload_n 1, 1) := by decide +kernel
theorem d_Mod_isBetter_66 : decode prog_14_method_78_code 66 = .ok (.aload_n 0, 1) := by decide +kernel
theorem d_Mod_isBetter_67 : decode prog_14_method_78_code 67 = .ok (.getfield 413, 3) := by decide +kernel
theorem d_Mod_isBetter_70 : decode prog_14_method_78_code 70 = .ok (.if_icmp .ge 7, 3) := by decide +kernel
theorem d_Mod_isBetter_73 : decode prog_14_method_78_code 73 = .ok (.iconst 1, 1) := by decide +kernel
theorem d_Mod_isBetter_74 : decode prog_14_method_78_code 74 = .ok (.goto 4, 3) := by decide +kernel
theorem d_Mod_isBetter_77 : decode prog_14_method_78_code 77 = .ok (.iconst 0, 1) := by decide +kernel
theorem d_Mod_isBetter_78 : decode prog_14_method_78_code 78 = .ok (.ireturn, 1) := by decide +kernel
theorem d_Mod_pot_0 : decode prog_14_method_79_code 0 = .ok (.iload_n 1, 1) := by decide +kernel
theorem d_Mod_pot_1 : decode prog_14_method_79_code 1 = .ok (.iconst 0, 1) := by decide +kernel
theorem d_Mod_pot_2 : decode prog_14_method_79_code 2 = .ok (.bipush 99, 2) := by decide +kernel
theorem d_Mod_pot_4 : decode prog_14_method_79_code 4 = .ok (.invokestatic 316, 3) := by decide +kernel
theorem d_Mod_pot_7 : decode prog_14_method_79_code 7 = .ok (.ifCond .eq 34, 3) := by decide +kernel
theorem d_Mod_pot_10 : decode prog_14_method_79_code 10 = .ok (.iload_n 2, 1) := by decide +kernel
theorem d_Mod_pot_11 : decode prog_14_method_79_code 11 = .ok (.iconst 0, 1) := by decide +kernel
theorem d_Mod_pot_12 : decode prog_14_method_79_code 12 = .ok (.bipush 99, 2) := by decide +kernel
theorem d_Mod_pot_14 : decode prog_14_method_79_code 14 = .ok (.invokestatic 316, 3) := by decide +kernel
theorem d_Mod_pot_17 : decode prog_14_method_79_code 17 = .ok (.ifCond .eq 24, 3) := by decide +kernel
theorem d_Mod_pot_20 : decode prog_14_method_79_code 20 = .ok (.iload_n 3, 1) := by decide +kernel
theorem d_Mod_pot_21 : decode prog_14_method_79_code 21 = .ok (.iconst 0, 1) := by decide +kernel
theorem d_Mod_pot_22 : decode prog_14_method_79_code 22 = .ok (.bipush 99, 2) := by decide +kernel
theorem d_Mod_pot_24 : decode prog_14_method_79_code 24 = .ok (.invokestatic 316, 3) := by decide +kernel
theorem d_Mod_pot_27 : decode prog_14_method_79_code 27 = .ok (.ifCond .eq 14, 3) := by decide +kernel
theorem d_Mod_pot_30 : decode prog_14_method_79_code 30 = .ok (.iload 4, 2) := by decide +kernel
theorem d_Mod_pot_32 : decode prog_14_method_79_code 32 = .ok (.iconst 0, 1) := by decide +kernel
theorem d_Mod_pot_33 : decode prog_14_method_79_code 33 = .ok (.bipush 7, 2) := by decide +kernel
theorem d_Mod_pot_35 : decode prog_14_method_79_code 35 = .ok (.invokestatic 316, 3) := by decide +kernel
theorem d_Mod_pot_38 : decode prog_14_method_79_code 38 = .ok (.ifCond .ne 5, 3) := by decide +kernel
theorem d_Mod_pot_41 : decode prog_14_method_79_code 41 = .ok (.iconst (-1), 1) := by decide +kernel
theorem d_Mod_pot_42 : decode prog_14_method_79_code 42 = .ok (.ireturn, 1) := by decide +kernel
theorem d_Mod_pot_43 : decode prog_14_method_79_code 43 = .ok (.aload_n 0, 1) := by decide +kernel
theorem d_Mod_pot_44 : decode prog_14_method_79_code 44 = .ok (.invokevirtual 377, 3) := by decide +kernel
theorem d_Mod_pot_47 : decode prog_14_method_79_code 47 = .ok (.aload_n 0, 1) := by decide +kernel
theorem d_Mod_pot_48 : decode prog_14_method_79_code 48 = .ok (.iconst (-1), 1) := by decide +kernel
theorem d_Mod_pot_49 : decode prog_14_method_79_code 49 = .ok (.putfield 404, 3) := by decide +kernel
theorem d_Mod_pot_52 : decode prog_14_method_79_code 52 = .ok (.bipush 6, 2) := by decide +kernel
theorem d_Mod_pot_54 : decode prog_14_method_79_code 54 = .ok (.invokestatic 401, 3) := by decide +kernel
theorem d_Mod_pot_57 : decode prog_14_method_79_code 57 = .ok (.iconst 1, 1) := by decide +kernel
theorem d_Mod_pot_58 : decode prog_14_method_79_code 58 = .ok (.isub, 1) := by decide +kernel
theorem d_Mod_pot_59 : decode prog_14_method_79_code 59 = .ok (.istore 5, 2) := by decide +kernel
theorem d_Mod_pot_61 : decode prog_14_method_79_code 61 = .ok (.iload 5, 2) := by decide +kernel
theorem d_Mod_pot_63 : decode prog_14_method_79_code 63 = .ok (.ifCond .le 93, 3) := by decide +kernel
theorem d_Mod_pot_66 : decode prog_14_method_79_code 66 = .ok (.aload_n 0, 1) := by decide +kernel
theorem d_Mod_pot_67 : decode prog_14_method_79_code 67 = .ok (.iload 5, 2) := by decide +kernel
theorem d_Mod_pot_69 : decode prog_14_method_79_code 69 = .ok (.invokevirtual 416, 3) := by decide +kernel
theorem d_Mod_pot_72 : decode prog_14_method_79_code 72 = .ok (.ifCond .eq 78, 3) := by decide +kernel
theorem d_Mod_pot_75 : decode prog_14_method_79_code 75 = .ok (.aload_n 0, 1) := by decide +kernel
theorem d_Mod_pot_76 : decode prog_14_method_79_code 76 = .ok (.getfield 404, 3) := by decide +kernel
theorem d_Mod_pot_79 : decode prog_14_method_79_code 79 = .ok (.ifCond .lt 17, 3) := by decide +kernel
theorem d_Mod_pot_82 : decode prog_14_method_79_code 82 = .ok (.aload_n 0, 1) := by decide +kernel
theorem d_Mod_pot_83 : decode prog_14_method_79_code 83 = .ok (.invokevirtual 362, 3) := by decide +kernel
theorem d_Mod_pot_86 : decode prog_14_method_79_code 86 = .ok (.aload_n 0, 1) := by decide +kernel
theorem d_Mod_pot_87 : decode prog_14_method_79_code 87 = .ok (.getfield 407, 3) := by decide +kernel
theorem d_Mod_pot_90 : decode prog_14_method_79_code 90 = .ok (.if_icmp .le 6, 3) := by decide +kernel
theorem d_Mod_pot_93 : decode prog_14_method_79_code 93 = .ok (.goto 57, 3) := by decide +kernel
theorem d_Mod_pot_96 : decode prog_14_method_79_code 96 = .ok (.aload_n 0, 1) := by decide +kernel
theorem d_Mod_pot_97 : decode prog_14_method_79_code 97 = .ok (.iload_n 1, 1) := by decide +kernel
theorem d_Mod_pot_98 : decode prog_14_method_79_code 98 = .ok (.iload_n 2, 1) := by decide +kernel
theorem d_Mod_pot_99 : decode prog_14_method_79_code 99 = .ok (.iload_n 3, 1) := by decide +kernel
theorem d_Mod_pot_100 : decode prog_14_method_79_code 100 = .ok (.invokevirtual 419, 3) := by decide +kernel
theorem d_Mod_pot_103 : decode prog_14_method_79_code 103 = .ok (.istore 6, 2) := by decide +kernel
theorem d_Mod_pot_105 : decode prog_14_method_79_code 105 = .ok (.iload 6, 2) := by decide +kernel
theorem d_Mod_pot_107 : decode prog_14_method_79_code 107 = .ok (.ifCond .lt 43, 3) := by decide +kernel
theorem d_Mod_pot_110 : decode prog_14_method_79_code 110 = .ok (.aload_n 0, 1) := by decide +kernel
theorem d_Mod_pot_111 : decode prog_14_method_79_code 111 = .ok (.iload 6, 2) := by decide +kernel
theorem d_Mod_pot_113 : decode prog_14_method_79_code 113 = .ok (.invokevirtual 422, 3) := by decide +kernel
theorem d_Mod_pot_116 : decode prog_14_method_79_code 116 = .ok (.ifCond .ne 6, 3) := by decide +kernel
theorem d_Mod_pot_119 : decode prog_14_method_79_code 119 = .ok (.goto 31, 3) := by decide +kernel
theorem d_Mod_pot_122 : decode prog_14_method_79_code 122 = .ok (.aload_n 0, 1) := by decide +kernel
theorem d_Mod_pot_123 : decode prog_14_method_79_code 123 = .ok (.iload 5, 2) := by decide +kernel
theorem d_Mod_pot_125 : decode prog_14_method_79_code 125 = .ok (.putfield 404, 3) := by decide +kernel
theorem d_Mod_pot_128 : decode prog_14_method_79_code 128 = .ok (.aload_n 0, 1) := by decide +kernel
theorem d_Mod_pot_129 : decode prog_14_method_79_code 129 = .ok (.aload_n 0, 1) := by decide +kernel
theorem d_Mod_pot_130 : decode prog_14_method_79_code 130 = .ok (.invokevirtual 362, 3) := by decide +kernel
theorem d_Mod_pot_133 : decode prog_14_method_79_code 133 = .ok (.putfield 407, 3) := by decide +kernel
theorem d_Mod_pot_136 : decode prog_14_method_79_code 136 = .ok (.aload_n 0, 1) := by decide +kernel
theorem d_Mod_pot_137 : decode prog_14_method_79_code 137 = .ok (.aload_n 0, 1) := by decide +kernel
theorem d_Mod_pot_138 : decode prog_14_method_79_code 138 = .ok (.invokevirtual 339, 3) := by decide +kernel
theorem d_Mod_pot_141 : decode prog_14_method_79_code 141 = .ok (.putfield 410, 3) := by decide +kernel
theorem d_Mod_pot_144 : decode prog_14_method_79_code 144 = .ok (.aload_n 0, 1) := by decide +kernel
theorem d_Mod_pot_145 : decode prog_14_method_79_code 145 = .ok (.iload 6, 2) := by decide +kernel
theorem d_Mod_pot_147 : decode prog_14_method_79_code 147 = .ok (.putfield 413, 3) := by decide +kernel
theorem d_Mod_pot_150 : decode prog_14_method_79_code 150 = .ok (.iinc 5 (-1), 3) := by decide +kernel
theorem d_Mod_pot_153 : decode prog_14_method_79_code 153 = .ok (.goto (-92), 3) := by decide +kernel
theorem d_Mod_pot_156 : decode prog_14_method_79_code 156 = .ok (.aload_n 0, 1) := by decide +kernel
theorem d_Mod_pot_157 : decode prog_14_method_79_code 157 = .ok (.getfield 404, 3) := by decide +kernel
theorem d_Mod_pot_160 : decode prog_14_method_79_code 160 = .ok (.ifCond .ge 6, 3) := by decide +kernel
theorem d_Mod_pot_163 : decode prog_14_method_79_code 163 = .ok (.bipush (-2), 2) := by decide +kernel
theorem d_Mod_pot_165 : decode prog_14_method_79_code 165 = .ok (.ireturn, 1) := by decide +kernel
theorem d_Mod_pot_166 : decode prog_14_method_79_code 166 = .ok (.iload 4, 2) := by decide +kernel
theorem d_Mod_pot_168 : decode prog_14_method_79_code 168 = .ok (.ifCond .ne 10, 3) := by decide +kernel
theorem d_Mod_pot_171 : decode prog_14_method_79_code 171 = .ok (.aload_n 0, 1) := by decide +kernel
theorem d_Mod_pot_172 : decode prog_14_method_79_code 172 = .ok (.getfield 407, 3) := by decide +kernel
theorem d_Mod_pot_175 : decode prog_14_method_79_code 175 = .ok (.goto 32, 3) := by decide +kernel
theorem d_Mod_pot_178 : decode prog_14_method_79_code 178 = .ok (.iload 4, 2) := by decide +kernel
theorem d_Mod_pot_180 : decode prog_14_method_79_code 180 = .ok (.iconst 1, 1) := by decide +kernel
theorem d_Mod_pot_181 : decode prog_14_method_79_code 181 = .ok (.if_icmp .ne 10, 3) := by decide +kernel
theorem d_Mod_pot_184 : decode prog_14_method_79_code 184 = .ok (.aload_n 0, 1) := by decide +kernel
theorem d_Mod_pot_185 : decode prog_14_method_79_code 185 = .ok (.getfield 413, 3) := by decide +kernel
theorem d_Mod_pot_188 : decode prog_14_method_79_code 188 = .ok (.goto 19, 3) := by decide +kernel
theorem d_Mod_pot_191 : decode prog_14_method_79_code 191 = .ok (.aload_n 0, 1) := by decide +kernel
theorem d_Mod_pot_192 : decode prog_14_method_79_code 192 = .ok (.getfield 404, 3) := by decide +kernel
theorem d_Mod_pot_195 : decode prog_14_method_79_code 195 = .ok (.bipush 7, 2) := by decide +kernel
theorem d_Mod_pot_197 : decode prog_14_method_79_code 197 = .ok (.iload 4, 2) := by decide +kernel
theorem d_Mod_pot_199 : decode prog_14_method_79_code 199 = .ok (.isub, 1) := by decide +kernel
theorem d_Mod_pot_200 : decode prog_14_method_79_code 200 = .ok (.invokestatic 401, 3) := by decide +kernel
theorem d_Mod_pot_203 : decode prog_14_method_79_code 203 = .ok (.idiv, 1) := by decide +kernel
theorem d_Mod_pot_204 : decode prog_14_method_79_code 204 = .ok (.bipush 7, 2) := by decide +kernel
theorem d_Mod_pot_206 : decode prog_14_method_79_code 206 = .ok (.irem, 1) := by decide +kernel
theorem d_Mod_pot_207 : decode prog_14_method_79_code 207 = .ok (.ireturn, 1) := by decide +kernel
theorem d_Mod_off_0 : decode prog_14_method_80_code 0 = .ok (.iload_n 0, 1) := by decide +kernel
theorem d_Mod_off_1 : decode prog_14_method_80_code 1 = .ok (.iload_n 1, 1) := by decide +kernel
theorem d_Mod_off_2 : decode prog_14_method_80_code 2 = .ok (.if_icmp .ge 9, 3) := by decide +kernel
theorem d_Mod_off_5 : decode prog_14_method_80_code 5 = .ok (.iload_n 1, 1) := by decide +kernel
theorem d_Mod_off_6 : decode prog_14_method_80_code 6 = .ok (.iload_n 0, 1) := by decide +kernel
theorem d_Mod_off_7 : decode prog_14_method_80_code 7 = .ok (.isub, 1) := by decide +kernel
theorem d_Mod_off_8 : decode prog_14_method_80_code 8 = .ok (.goto 6, 3) := by decide +kernel
theorem d_Mod_off_11 : decode prog_14_method_80_code 11 = .ok (.iload_n 0, 1) := by decide +kernel
theorem d_Mod_off_12 : decode prog_14_method_80_code 12 = .ok (.iload_n 1, 1) := by decide +kernel
theorem d_Mod_off_13 : decode prog_14_method_80_code 13 = .ok (.isub, 1) := by decide +kernel
theorem d_Mod_off_14 : decode prog_14_method_80_code 14 = .ok (.ireturn, 1) := by decide +kernel
theorem d_Mod_pinch_0 : decode prog_14_method_81_code 0 = .ok (.aload_n 0, 1) := by decide +kernel
theorem d_Mod_pinch_1 : decode prog_14_method_81_code 1 = .ok (.iload_n 1, 1) := by decide +kernel
theorem d_Mod_pinch_2 : decode prog_14_method_81_code 2 = .ok (.invokevirtual 374, 3) := by decide +kernel
theorem d_Mod_pinch_5 : decode prog_14_method_81_code 5 = .ok (.ifCond .eq 12, 3) := by decide +kernel
theorem d_Mod_pinch_8 : decode prog_14_method_81_code 8 = .ok (.iload_n 2, 1) := by decide +kernel
theorem d_Mod_pinch_9 : decode prog_14_method_81_code 9 = .ok (.iconst 0, 1) := by decide +kernel
theorem d_Mod_pinch_10 : decode prog_14_method_81_code 10 = .ok (.iconst 1, 1) := by decide +kernel
theorem d_Mod_pinch_11 : decode prog_14_method_81_code 11 = .ok (.invokestatic 316, 3) := by decide +kernel
theorem d_Mod_pinch_14 : decode prog_14_method_81_code 14 = .ok (.ifCond .ne 5, 3) := by decide +kernel
theorem d_Mod_pinch_17 : decode prog_14_method_81_code 17 = .ok (.iconst (-1), 1) := by decide +kernel
theorem d_Mod_pinch_18 : decode prog_14_method_81_code 18 = .ok (.ireturn, 1) := by decide +kernel
theorem d_Mod_pinch_19 : decode prog_14_method_81_code 19 = .ok (.aload_n 0, 1) := by decide +kernel
theorem d_Mod_pinch_20 : decode prog_14_method_81_code 20 = .ok (.invokevirtual 377, 3) := by decide +kernel
theorem d_Mod_pinch_23 : decode prog_14_method_81_code 23 = .ok (.aload_n 0, 1) := by decide +kernel
theorem d_Mod_pinch_24 : decode prog_14_method_81_code 24 = .ok (.getfield 61, 3) := by decide +kernel
theorem d_Mod_pinch_27 : decode prog_14_method_81_code 27 = .ok (.iconst 5, 1) := by decide +kernel
theorem d_Mod_pinch_28 : decode prog_14_method_81_code 28 = .ok (.aload_n 0, 1) := by decide +kernel
theorem d_Mod_pinch_29 : decode prog_14_method_81_code 29 = .ok (.getfield 236, 3) := by decide +kernel
theorem d_Mod_pinch_32 : decode prog_14_method_81_code 32 = .ok (.imul, 1) := by decide +kernel
theorem d_Mod_pinch_33 : decode prog_14_method_81_code 33 = .ok (.iload_n 1, 1) := by decide +kernel
theorem d_Mod_pinch_34 : decode prog_14_method_81_code 34 = .ok (.iadd, 1) := by decide +kernel
theorem d_Mod_pinch_35 : decode prog_14_method_81_code 35 = .ok (.iaload, 1) := by decide +kernel
theorem d_Mod_pinch_36 : decode prog_14_method_81_code 36 = .ok (.istore_n 3, 1) := by decide +kernel
theorem d_Mod_pinch_37 : decode prog_14_method_81_code 37 = .ok (.iconst 0, 1) := by decide +kernel
theorem d_Mod_pinch_38 : decode prog_14_method_81_code 38 = .ok (.istore 4, 2) := by decide +kernel
theorem d_Mod_pinch_40 : decode prog_14_method_81_code 40 = .ok (.iconst (-1), 1) := by decide +kernel
theorem d_Mod_pinch_41 : decode prog_14_method_81_code 41 = .ok (.istore 5, 2) := by decide +kernel
theorem d_Mod_pinch_43 : decode prog_14_method_81_code 43 = .ok (.iconst 0, 1) := by decide +kernel
theorem d_Mod_pinch_44 : decode prog_14_method_81_code 44 = .ok (.istore 6, 2) := by decide +kernel
theorem d_Mod_pinch_46 : decode prog_14_method_81_code 46 = .ok (.iload 6, 2) := by decide +kernel
theorem d_Mod_pinch_48 : decode prog_14_method_81_code 48 = .ok (.aload_n 0, 1) := by decide +kernel
theorem d_Mod_pinch_49 : decode prog_14_method_81_code 49 = .ok (.getfield 46, 3) := by decide +kernel
theorem d_Mod_pinch_52 : decode prog_14_method_81_code 52 = .ok (.aload_n 0, 1) := by decide +kernel
theorem d_Mod_pinch_53 : decode prog_14_method_81_code 53 = .ok (.getfield 236, 3) := by decide +kernel
theorem d_Mod_pinch_56 : decode prog_14_method_81_code 56 = .ok (.iaload, 1) := by decide +kernel
theorem d_Mod_pinch_57 : decode prog_14_method_81_code 57 = .ok (.if_icmp .ge 87, 3) := by decide +kernel
theorem d_Mod_pinch_60 : decode prog_14_method_81_code 60 = .ok (.iconst 0, 1) := by decide +kernel
theorem d_Mod_pinch_61 : decode prog_14_method_81_code 61 = .ok (.istore 7, 2) := by decide +kernel
theorem d_Mod_pinch_63 : decode prog_14_method_81_code 63 = .ok (.iconst 0, 1) := by decide +kernel
theorem d_Mod_pinch_64 : decode prog_14_method_81_code 64 = .ok (.istore 8, 2) := by decide +kernel
theorem d_Mod_pinch_66 : decode prog_14_method_81_code 66 = .ok (.iload 8, 2) := by decide +kernel
theorem d_Mod_pinch_68 : decode prog_14_method_81_code 68 = .ok (.iconst 3, 1) := by decide +kernel
theorem d_Mod_pinch_69 : decode prog_14_method_81_code 69 = .ok (.if_icmp .ge 51, 3) := by decide +kernel
theorem d_Mod_pinch_72 : decode prog_14_method_81_code 72 = .ok (.aload_n 0, 1) := by decide +kernel
theorem d_Mod_pinch_73 : decode prog_14_method_81_code 73 = .ok (.iload_n 1, 1) := by decide +kernel
theorem d_Mod_pinch_74 : decode prog_14_method_81_code 74 = .ok (.invokevirtual 356, 3) := by decide +kernel
theorem d_Mod_pinch_77 : decode prog_14_method_81_code 77 = .ok (.aload_n 0, 1) := by decide +kernel
theorem d_Mod_pinch_78 : decode prog_14_method_81_code 78 = .ok (.iload 8, 2) := by decide +kernel
theorem d_Mod_pinch_80 : decode prog_14_method_81_code 80 = .ok (.iload_n 3, 1) := by decide +kernel
theorem d_Mod_pinch_81 : decode prog_14_method_81_code 81 = .ok (.invokevirtual 359, 3) := by decide +kernel
theorem d_Mod_pinch_84 : decode prog_14_method_81_code 84 = .ok (.istore 9, 2) := by decide +kernel
theorem d_Mod_pinch_86 : decode prog_14_method_81_code 86 = .ok (.aload_n 0, 1) := by decide +kernel
theorem d_Mod_pinch_87 : decode prog_14_method_81_code 87 = .ok (.getfield 128, 3) := by decide +kernel
theorem d_Mod_pinch_90 : decode prog_14_method_81_code 90 = .ok (.iload 6, 2) := by decide +kernel
theorem d_Mod_pinch_92 : decode prog_14_method_81_code 92 = .ok (.dup2, 1) := by decide +kernel
theorem d_Mod_pinch_93 : decode prog_14_method_81_code 93 = .ok (.iaload, 1) := by decide +kernel
theorem d_Mod_pinch_94 : decode prog_14_method_81_code 94 = .ok (.iconst 1, 1) := by decide +kernel
theorem d_Mod_pinch_95 : decode prog_14_method_81_code 95 = .ok (.iadd, 1) := by decide +kernel
theorem d_Mod_pinch_96 : decode prog_14_method_81_code 96 = .ok (.iastore, 1) := by decide +kernel
theorem d_Mod_pinch_97 : decode prog_14_method_81_code 97 = .ok (.iload 7, 2) := by decide +kernel
theorem d_Mod_pinch_99 : decode prog_14_method_81_code 99 = .ok (.iload 9, 2) := by decide +kernel
theorem d_Mod_pinch_101 : decode prog_14_method_81_code 101 = .ok (.aload_n 0, 1) := by decide +kernel
theorem d_Mod_pinch_102 : decode prog_14_method_81_code 102 = .ok (.iload 8, 2) := by decide +kernel
theorem d_Mod_pinch_104 : decode prog_14_method_81_code 104 = .ok (.iload_n 3, 1) := by decide +kernel
theorem d_Mod_pinch_105 : decode prog_14_method_81_code 105 = .ok (.invokevirtual 359, 3) := by decide +kernel
theorem d_Mod_pinch_108 : decode prog_14_method_81_code 108 = .ok (.invokestatic 425, 3) := by decide +kernel
theorem d_Mod_pinch_111 : decode prog_14_method_81_code 111 = .ok (.iadd, 1) := by decide +kernel
theorem d_Mod_pinch_112 : decode prog_14_method_81_code 112 = .ok (.istore 7, 2) := by decide +kernel
theorem d_Mod_pinch_114 : decode prog_14_method_81_code 114 = .ok (.iinc 8 1, 3) := by decide +kernel
theorem d_Mod_pinch_117 : decode prog_14_method_81_code 117 = .ok (.goto (-51), 3) := by decide +kernel
theorem d_Mod_pinch_120 : decode prog_14_method_81_code 120 = .ok (.iload 7, 2) := by decide +kernel
theorem d_Mod_pinch_122 : decode prog_14_method_81_code 122 = .ok (.iload 5, 2) := by decide +kernel
theorem d_Mod_pinch_124 : decode prog_14_method_81_code 124 = .ok (.if_icmp .gt 6, 3) := by decide +kernel
theorem d_Mod_pinch_127 : decode prog_14_method_81_code 127 = .ok (.goto 11, 3) := by decide +kernel
theorem d_Mod_pinch_130 : decode prog_14_method_81_code 130 = .ok (.iload 6, 2) := by decide +kernel
theorem d_Mod_pinch_132 : decode prog_14_method_81_code 132 = .ok (.istore 4, 2) := by decide +kernel
theorem d_Mod_pinch_134 : decode prog_14_method_81_code 134 = .ok (.iload 7, 2) := by decide +kernel
theorem d_Mod_pinch_136 : decode prog_14_method_81_code 136 = .ok (.istore 5, 2) := by decide +kernel
theorem d_Mod_pinch_138 : decode prog_14_method_81_code 138 = .ok (.iinc 6 1, 3) := by decide +kernel
theorem d_Mod_pinch_141 : decode prog_14_method_81_code 141 = .ok (.goto (-95), 3) := by decide +kernel
theorem d_Mod_pinch_144 : decode prog_14_method_81_code 144 = .ok (.iload_n 2, 1) := by decide +kernel
theorem d_Mod_pinch_145 : decode prog_14_method_81_code 145 = .ok (.ifCond .ne 8, 3) := by decide +kernel
theorem d_Mod_pinch_148 : decode prog_14_method_81_code 148 = .ok (.iload 4, 2) := by decide +kernel
theorem d_Mod_pinch_150 : decode prog_14_method_81_code 150 = .ok (.goto 5, 3) := by decide +kernel
theorem d_Mod_pinch_153 : decode prog_14_method_81_code 153 = .ok (.iload 5, 2) := by decide +kernel
theorem d_Mod_pinch_155 : decode prog_14_method_81_code 155 = .ok (.ireturn, 1) := by decide +kernel
theorem d_Mod_freestOf_0 : decode prog_14_method_82_code 0 = .ok (.bipush (-2), 2) := by decide +kernel
theorem d_Mod_freestOf_2 : decode prog_14_method_82_code 2 = .ok (.istore_n 2, 1) := by decide +kernel
theorem d_Mod_freestOf_3 : decode prog_14_method_82_code 3 = .ok (.aload_n 0, 1) := by decide +kernel
theorem d_Mod_freestOf_4 : decode prog_14_method_82_code 4 = .ok (.iconst (-1), 1) := by decide +kernel
theorem d_Mod_freestOf_5 : decode prog_14_method_82_code 5 = .ok (.putfield 428, 3) := by decide +kernel
theorem d_Mod_freestOf_8 : decode prog_14_method_82_code 8 = .ok (.iconst 0, 1) := by decide +kernel
theorem d_Mod_freestOf_9 : decode prog_14_method_82_code 9 = .ok (.istore_n 3, 1) := by decide +kernel
theorem d_Mod_freestOf_10 : decode prog_14_method_82_code 10 = .ok (.iload_n 3, 1) := by decide +kernel
theorem d_Mod_freestOf_11 : decode prog_14_method_82_code 11 = .ok (.aload_n 0, 1) := by decide +kernel
theorem d_Mod_freestOf_12 : decode prog_14_method_82_code 12 = .ok (.getfield 58, 3) := by decide +kernel
theorem d_Mod_freestOf_15 : decode prog_14_method_82_code 15 = .ok (.aload_n 0, 1) := by decide +kernel
theorem d_Mod_freestOf_16 : decode prog_14_method_82_code 16 = .ok (.getfield 236, 3) := by decide +kernel
theorem d_Mod_freestOf_19 : decode prog_14_method_82_code 19 = .ok (.iaload, 1) := by decide +kernel
theorem d_Mod_freestOf_20 : decode prog_14_method_82_code 20 = .ok (.if_icmp .ge 49, 3) := by decide +kernel
theorem d_Mod_freestOf_23 : decode prog_14_method_82_code 23 = .ok (.aload_n 0, 1) := by decide +kernel
theorem d_Mod_freestOf_24 : decode prog_14_method_82_code 24 = .ok (.invokevirtual 377, 3) := by decide +kernel
theorem d_Mod_freestOf_27 : decode prog_14_method_82_code 27 = .ok (.aload_n 0, 1) := by decide +kernel
theorem d_Mod_freestOf_28 : decode prog_14_method_82_code 28 = .ok (.iload_n 1, 1) := by decide +kernel
theorem d_Mod_freestOf_29 : decode prog_14_method_82_code 29 = .ok (.iload_n 3, 1) := by decide +kernel
theorem d_Mod_freestOf_30 : decode prog_14_method_82_code 30 = .ok (.invokevirtual 431, 3) := by decide +kernel
theorem d_Mod_freestOf_33 : decode prog_14_method_82_code 33 = .ok (.aload_n 0, 1) := by decide +kernel
theorem d_Mod_freestOf_34 : decode prog_14_method_82_code 34 = .ok (.iload_n 1, 1) := by decide +kernel
theorem d_Mod_freestOf_35 : decode prog_14_method_82_code 35 = .ok (.invokevirtual 395, 3) := by decide +kernel
theorem d_Mod_freestOf_38 : decode prog_14_method_82_code 38 = .ok (.invokestatic 434, 3) := by decide +kernel
theorem d_Mod_freestOf_41 : decode prog_14_method_82_code 41 = .ok (.istore 4, 2) := by decide +kernel
theorem d_Mod_freestOf_43 : decode prog_14_method_82_code 43 = .ok (.iload 4, 2) := by decide +kernel
theorem d_Mod_freestOf_45 : decode prog_14_method_82_code 45 = .ok (.aload_n 0, 1) := by decide +kernel
theorem d_Mod_freestOf_46 : decode prog_14_method_82_code 46 = .ok (.getfield 428, 3) := by decide +kernel
theorem d_Mod_freestOf_49 : decode prog_14_method_82_code 49 = .ok (.if_icmp .gt 6, 3) := by decide +kernel
theorem d_Mod_freestOf_52 : decode prog_14_method_82_code 52 = .ok (.goto 11, 3) := by decide +kernel
theorem d_Mod_freestOf_55 : decode prog_14_method_82_code 55 = .ok (.iload_n 3, 1) := by decide +kernel
theorem d_Mod_freestOf_56 : decode prog_14_method_82_code 56 = .ok (.istore_n 2, 1) := by decide +kernel
theorem d_Mod_freestOf_57 : decode prog_14_method_82_code 57 = .ok (.aload_n 0, 1) := by decide +kernel
theorem d_Mod_freestOf_58 : decode prog_14_method_82_code 58 = .ok (.iload 4, 2) := by decide +kernel
theorem d_Mod_freestOf_60 : decode prog_14_method_82_code 60 = .ok (.putfield 428, 3) := by decide +kernel
theorem d_Mod_freestOf_63 : decode prog_14_method_82_code 63 = .ok (.iinc 3 1, 3) := by decide +kernel
theorem d_Mod_freestOf_66 : decode prog_14_method_82_code 66 = .ok (.goto (-56), 3) := by decide +kernel
theorem d_Mod_freestOf_69 : decode prog_14_method_82_code 69 = .ok (.iload_n 2, 1) := by decide +kernel
theorem d_Mod_freestOf_70 : decode prog_14_method_82_code 70 = .ok (.ireturn, 1) := by decide +kernel
theorem d_Mod_freest_0 : decode prog_14_method_83_code 0 = .ok (.aload_n 0, 1) := by decide +kernel
theorem d_Mod_freest_1 : decode prog_14_method_83_code 1 = .ok (.iload_n 1, 1) := by decide +kernel
theorem d_Mod_freest_2 : decode prog_14_method_83_code 2 = .ok (.invokevirtual 380, 3) := by decide +kernel
theorem d_Mod_freest_5 : decode prog_14_method_83_code 5 = .ok (.ifCond .eq 12, 3) := by decide +kernel
theorem d_Mod_freest_8 : decode prog_14_method_83_code 8 = .ok (.iload_n 2, 1) := by decide +kernel
theorem d_Mod_freest_9 : decode prog_14_method_83_code 9 = .ok (.iconst 0, 1) := by decide +kernel
theorem d_Mod_freest_10 : decode prog_14_method_83_code 10 = .ok (.iconst 1, 1) := by decide +kernel
theorem d_Mod_freest_11 : decode prog_14_method_83_code 11 = .ok (.invokestatic 316, 3) := by decide +kernel
theorem d_Mod_freest_14 : decode prog_14_method_83_code 14 = .ok (.ifCond .ne 5, 3) := by decide +kernel
theorem d_Mod_freest_17 : decode prog_14_method_83_code 17 = .ok (.iconst (-1), 1) := by decide +kernel
theorem d_Mod_freest_18 : decode prog_14_method_83_code 18 = .ok (.ireturn, 1) := by decide +kernel
theorem d_Mod_freest_19 : decode prog_14_method_83_code 19 = .ok (.aload_n 0, 1) := by decide +kernel
theorem d_Mod_freest_20 : decode prog_14_method_83_code 20 = .ok (.iload_n 1, 1) := by decide +kernel
theorem d_Mod_freest_21 : decode prog_14_method_83_code 21 = .ok (.invokevirtual 437, 3) := by decide +kernel
theorem d_Mod_freest_24 : decode prog_14_method_83_code 24 = .ok (.istore_n 3, 1) := by decide +kernel
theorem d_Mod_freest_25 : decode prog_14_method_83_code 25 = .ok (.iload_n 3, 1) := by decide +kernel
theorem d_Mod_freest_26 : decode prog_14_method_83_code 26 = .ok (.ifCond .lt 7, 3) := by decide +kernel
theorem d_Mod_freest_29 : decode prog_14_method_83_code 29 = .ok (.iload_n 2, 1) := by decide +kernel
theorem d_Mod_freest_30 : decode prog_14_method_83_code 30 = .ok (.ifCond .ne 7, 3) := by decide +kernel
theorem d_Mod_freest_33 : decode prog_14_method_83_code 33 = .ok (.iload_n 3, 1) := by decide +kernel
theorem d_Mod_freest_34 : decode prog_14_method_83_code 34 = .ok (.goto 7, 3) := by decide +kernel
theorem d_Mod_freest_37 : decode prog_14_method_83_code 37 = .ok (.aload_n 0, 1) := by decide +kernel
theorem d_Mod_freest_38 : decode prog_14_method_83_code 38 = .ok (.getfield 428, 3) := by decide +kernel
theorem d_Mod_freest_41 : decode prog_14_method_83_code 41 = .ok (.ireturn, 1) := by decide +kernel
theorem d_Mod_supper_0 : decode prog_14_method_84_code 0 = .ok (.iconst 0, 1) := by decide +kernel
theorem d_Mod_supper_1 : decode prog_14_method_84_code 1 = .ok (.istore_n 1, 1) := by decide +kernel
theorem d_Mod_supper_2 : decode prog_14_method_84_code 2 = .ok (.iconst 0, 1) := by decide +kernel
theorem d_Mod_supper_3 : decode prog_14_method_84_code 3 = .ok (.istore_n 2, 1) := by decide +kernel
theorem d_Mod_supper_4 : decode prog_14_method_84_code 4 = .ok (.iload_n 2, 1) := by decide +kernel
theorem d_Mod_supper_5 : decode prog_14_method_84_code 5 = .ok (.aload_n 0, 1) := by decide +kernel
theorem d_Mod_supper_6 : decode prog_14_method_84_code 6 = .ok (.getfield 67, 3) := by decide +kernel
theorem d_Mod_supper_9 : decode prog_14_method_84_code 9 = .ok (.aload_n 0, 1) := by decide +kernel
theorem d_Mod_supper_10 : decode prog_14_method_84_code 10 = .ok (.getfield 236, 3) := by decide +kernel
theorem d_Mod_supper_13 : decode prog_14_method_84_code 13 = .ok (.iaload, 1) := by decide +kernel
theorem d_Mod_supper_14 : decode prog_14_method_84_code 14 = .ok (.if_icmp .ge 34, 3) := by decide +kernel
theorem d_Mod_supper_17 : decode prog_14_method_84_code 17 = .ok (.aload_n 0, 1) := by decide +kernel
theorem d_Mod_supper_18 : decode prog_14_method_84_code 18 = .ok (.getfield 58, 3) := by decide +kernel
theorem d_Mod_supper_21 : decode prog_14_method_84_code 21 = .ok (.aload_n 0, 1) := by decide +kernel
theorem d_Mod_supper_22 : decode prog_14_method_84_code 22 = .ok (.getfield 236, 3) := by decide +kernel
theorem d_Mod_supper_25 : decode prog_14_method_84_code 25 = .ok (.iaload, 1) := by decide +kernel
theorem d_Mod_supper_26 : decode prog_14_method_84_code 26 = .ok (.ifCond .le 22, 3) := by decide +kernel
theorem d_Mod_supper_29 : decode prog_14_method_84_code 29 = .ok (.aload_n 0, 1) := by decide +kernel
theorem d_Mod_supper_30 : decode prog_14_method_84_code 30 = .ok (.iload_n 2, 1) := by decide +kernel
theorem d_Mod_supper_31 : decode prog_14_method_84_code 31 = .ok (.invokevirtual 437, 3) := by decide +kernel
theorem d_Mod_supper_34 : decode prog_14_method_84_code 34 = .ok (.pop, 1) := by decide +kernel
theorem d_Mod_supper_35 : decode prog_14_method_84_code 35 = .ok (.iload_n 1, 1) := by decide +kernel
theorem d_Mod_supper_36 : decode prog_14_method_84_code 36 = .ok (.aload_n 0, 1) := by decide +kernel
theorem d_Mod_supper_37 : decode prog_14_method_84_code 37 = .ok (.getfield 428, 3) := by decide +kernel
theorem d_Mod_supper_40 : decode prog_14_method_84_code 40 = .ok (.iadd, 1) := by decide +kernel
theorem d_Mod_supper_41 : decode prog_14_method_84_code 41 = .ok (.istore_n 1, 1) := by decide +kernel
theorem d_Mod_supper_42 : decode prog_14_method_84_code 42 = .ok (.iinc 2 1, 3) := by decide +kernel
theorem d_Mod_supper_45 : decode prog_14_method_84_code 45 = .ok (.goto (-41), 3) := by decide +kernel
theorem d_Mod_supper_48 : decode prog_14_method_84_code 48 = .ok (.iload_n 1, 1) := by decide +kernel
theorem d_Mod_supper_49 : decode prog_14_method_84_code 49 = .ok (.ireturn, 1) := by decide +kernel
theorem d_Mod_feud_0 : decode prog_14_method_85_code 0 = .ok (.aload_n 0, 1) := by decide +kernel
theorem d_Mod_feud_1 : decode prog_14_method_85_code 1 = .ok (.iload_n 1, 1) := by decide +kernel
theorem d_Mod_feud_2 : decode prog_14_method_85_code 2 = .ok (.invokevirtual 380, 3) := by decide +kernel
theorem d_Mod_feud_5 : decode prog_14_method_85_code 5 = .ok (.ifCond .eq 24, 3) := by decide +kernel
theorem d_Mod_feud_8 : decode prog_14_method_85_code 8 = .ok (.aload_n 0, 1) := by decide +kernel
theorem d_Mod_feud_9 : decode prog_14_method_85_code 9 = .ok (.iload_n 2, 1) := by decide +kernel
theorem d_Mod_feud_10 : decode prog_14_method_85_code 10 = .ok (.invokevirtual 383, 3) := by decide +kernel
theorem d_Mod_feud_13 : decode prog_14_method_85_code 13 = .ok (.ifCond .eq 16, 3) := by decide +kernel
theorem d_Mod_feud_16 : decode prog_14_method_85_code 16 = .ok (.aload_n 0, 1) := by decide +kernel
theorem d_Mod_feud_17 : decode prog_14_method_85_code 17 = .ok (.iload_n 3, 1) := by decide +kernel
theorem d_Mod_feud_18 : decode prog_14_method_85_code 18 = .ok (.invokevirtual 383, 3) := by decide +kernel
theorem d_Mod_feud_21 : decode prog_14_method_85_code 21 = .ok (.ifCond .eq 8, 3) := by decide +kernel
theorem d_Mod_feud_24 : decode prog_14_method_85_code 24 = .ok (.iload_n 2, 1) := by decide +kernel
theorem d_Mod_feud_25 : decode prog_14_method_85_code 25 = .ok (.iload_n 3, 1) := by decide +kernel
theorem d_Mod_feud_26 : decode prog_14_method_85_code 26 = .ok (.if_icmp .ne 5, 3) := by decide +kernel
theorem d_Mod_feud_29 : decode prog_14_method_85_code 29 = .ok (.iconst (-1), 1) := by decide +kernel
theorem d_Mod_feud_30 : decode prog_14_method_85_code 30 = .ok (.ireturn, 1) := by decide +kernel
theorem d_Mod_feud_31 : decode prog_14_method_85_code 31 = .ok (.iconst 0, 1) := by decide +kernel
theorem d_Mod_feud_32 : decode prog_14_method_85_code 32 = .ok (.istore 4, 2) := by decide +kernel
theorem d_Mod_feud_34 : decode prog_14_method_85_code 34 = .ok (.iconst 0, 1) := by decide +kernel
theorem d_Mod_feud_35 : decode prog_14_method_85_code 35 = .ok (.istore 5, 2) := by decide +kernel
theorem d_Mod_feud_37 : decode prog_14_method_85_code 37 = .ok (.iload 5, 2) := by decide +kernel
theorem d_Mod_feud_39 : decode prog_14_method_85_code 39 = .ok (.aload_n 0, 1) := by decide +kernel
theorem d_Mod_feud_40 : decode prog_14_method_85_code 40 = .ok (.getfield 58, 3) := by decide +kernel
theorem d_Mod_feud_43 : decode prog_14_method_85_code 43 = .ok (.aload_n 0, 1) := by decide +kernel
theorem d_Mod_feud_44 : decode prog_14_method_85_code 44 = .ok (.getfield 236, 3) := by decide +kernel
theorem d_Mod_feud_47 : decode prog_14_method_85_code 47 = .ok (.iaload, 1) := by decide +kernel
theorem d_Mod_feud_48 : decode prog_14_method_85_code 48 = .ok (.if_icmp .ge 44, 3) := by decide +kernel
theorem d_Mod_feud_51 : decode prog_14_method_85_code 51 = .ok (.aload_n 0, 1) := by decide +kernel
theorem d_Mod_feud_52 : decode prog_14_method_85_code 52 = .ok (.invokevirtual 377, 3) := by decide +kernel
theorem d_Mod_feud_55 : decode prog_14_method_85_code 55 = .ok (.aload_n 0, 1) := by decide +kernel
theorem d_Mod_feud_56 : decode prog_14_method_85_code 56 = .ok (.iload_n 1, 1) := by decide +kernel
theorem d_Mod_feud_57 : decode prog_14_method_85_code 57 = .ok (.iload 5, 2) := by decide +kernel
theorem d_Mod_feud_59 : decode prog_14_method_85_code 59 = .ok (.invokevirtual 431, 3) := by decide +kernel
theorem d_Mod_feud_62 : decode prog_14_method_85_code 62 = .ok (.aload_n 0, 1) := by decide +kernel
theorem d_Mod_feud_63 : decode prog_14_method_85_code 63 = .ok (.iload_n 1, 1) := by decide +kernel
theorem d_Mod_feud_64 : decode prog_14_method_85_code 64 = .ok (.iload_n 2, 1) := by decide +kernel
theorem d_Mod_feud_65 : decode prog_14_method_85_code 65 = .ok (.invokevirtual 352, 3) := by decide +kernel
theorem d_Mod_feud_68 : decode prog_14_method_85_code 68 = .ok (.aload_n 0, 1) := by decide +kernel
theorem d_Mod_feud_69 : decode prog_14_method_85_code 69 = .ok (.iload_n 1, 1) := by decide +kernel
theorem d_Mod_feud_70 : decode prog_14_method_85_code 70 = .ok (.iload_n 3, 1) := by decide +kernel
theorem d_Mod_feud_71 : decode prog_14_method_85_code 71 = .ok (.invokevirtual 352, 3) := by decide +kernel
theorem d_Mod_feud_74 : decode prog_14_method_85_code 74 = .ok (.if_icmp .eq 12, 3) := by decide +kernel
theorem d_Mod_feud_77 : decode prog_14_method_85_code 77 = .ok (.iload 4, 2) := by decide +kernel
theorem d_Mod_feud_79 : decode prog_14_method_85_code 79 = .ok (.iconst 1, 1) := by decide +kernel
theorem d_Mod_feud_80 : decode prog_14_method_85_code 80 = .ok (.iload 5, 2) := by decide +kernel
theorem d_Mod_feud_82 : decode prog_14_method_85_code 82 = .ok (.ishl, 1) := by decide +kernel
theorem d_Mod_feud_83 : decode prog_14_method_85_code 83 = .ok (.ior, 1) := by decide +kernel
theorem d_Mod_feud_84 : decode prog_14_method_85_code 84 = .ok (.istore 4, 2) := by decide +kernel
theorem d_Mod_feud_86 : decode prog_14_method_85_code 86 = .ok (.iinc 5 1, 3) := by decide +kernel
theorem d_Mod_feud_89 : decode prog_14_method_85_code 89 = .ok (.goto (-52), 3) := by decide +kernel
theorem d_Mod_feud_92 : decode prog_14_method_85_code 92 = .ok (.iload 4, 2) := by decide +kernel
theorem d_Mod_feud_94 : decode prog_14_method_85_code 94 = .ok (.ireturn, 1) := by decide +kernel
theorem d_Mod_sixes_0 : decode prog_14_method_86_code 0 = .ok (.iconst 1, 1) := by decide +kernel
theorem d_Mod_sixes_1 : decode prog_14_method_86_code 1 = .ok (.istore_n 1, 1) := by decide +kernel
theorem d_Mod_sixes_2 : decode prog_14_method_86_code 2 = .ok (.iconst 0, 1) := by decide +kernel
theorem d_Mod_sixes_3 : decode prog_14_method_86_code 3 = .ok (.istore_n 2, 1) := by decide +kernel
theorem d_Mod_sixes_4 : decode prog_14_method_86_code 4 = .ok (.iload_n 2, 1) := by decide +kernel
theorem d_Mod_sixes_5 : decode prog_14_method_86_code 5 = .ok (.iload_n 0, 1) := by decide +kernel
theorem d_Mod_sixes_6 : decode prog_14_method_86_code 6 = .ok (.if_icmp .ge 14, 3) := by decide +kernel
theorem d_Mod_sixes_9 : decode prog_14_method_86_code 9 = .ok (.iload_n 1, 1) := by decide +kernel
theorem d_Mod_sixes_10 : decode prog_14_method_86_code 10 = .ok (.bipush 6, 2) := by decide +kernel
theorem d_Mod_sixes_12 : decode prog_14_method_86_code 12 = .ok (.imul, 1) := by decide +kernel
theorem d_Mod_sixes_13 : decode prog_14_method_86_code 13 = .ok (.istore_n 1, 1) := by decide +kernel
theorem d_Mod_sixes_14 : decode prog_14_method_86_code 14 = .ok (.iinc 2 1, 3) := by decide +kernel
theorem d_Mod_sixes_17 : decode prog_14_method_86_code 17 = .ok (.goto (-13), 3) := by decide +kernel
theorem d_Mod_sixes_20 : decode prog_14_method_86_code 20 = .ok (.iload_n 1, 1) := by decide +kernel
theorem d_Mod_sixes_21 : decode prog_14_method_86_code 21 = .ok (.ireturn, 1) := by decide +kernel
theorem d_Mod_mealsBy_0 : decode prog_14_method_87_code 0 = .ok (.aload_n 0, 1) := by decide +kernel
theorem d_Mod_mealsBy_1 : decode prog_14_method_87_code 1 = .ok (.invokevirtual 377, 3) := by decide +kernel
theorem d_Mod_mealsBy_4 : decode prog_14_method_87_code 4 = .ok (.iconst 0, 1) := by decide +kernel
theorem d_Mod_mealsBy_5 : decode prog_14_method_87_code 5 = .ok (.istore 5, 2) := by decide +kernel
theorem d_Mod_mealsBy_7 : decode prog_14_method_87_code 7 = .ok (.iconst 0, 1) := by decide +kernel
theorem d_Mod_mealsBy_8 : decode prog_14_method_87_code 8 = .ok (.istore 6, 2) := by decide +kernel
theorem d_Mod_mealsBy_10 : decode prog_14_method_87_code 10 = .ok (.iload 6, 2) := by decide +kernel
theorem d_Mod_mealsBy_12 : decode prog_14_method_87_code 12 = .ok (.iload_n 3, 1) := by decide +kernel
theorem d_Mod_mealsBy_13 : decode prog_14_method_87_code 13 = .ok (.if_icmp .ge 84, 3) := by decide +kernel
theorem d_Mod_mealsBy_16 : decode prog_14_method_87_code 16 = .ok (.iload_n 1, 1) := by decide +kernel
theorem d_Mod_mealsBy_17 : decode prog_14_method_87_code 17 = .ok (.iload_n 3, 1) := by decide +kernel
theorem d_Mod_mealsBy_18 : decode prog_14_method_87_code 18 = .ok (.iconst 1, 1) := by decide +kernel
theorem d_Mod_mealsBy_19 : decode prog_14_method_87_code 19 = .ok (.isub, 1) := by decide +kernel
theorem d_Mod_mealsBy_20 : decode prog_14_method_87_code 20 = .ok (.iload 6, 2) := by decide +kernel
theorem d_Mod_mealsBy_22 : decode prog_14_method_87_code 22 = .ok (.isub, 1) := by decide +kernel
theorem d_Mod_mealsBy_23 : decode prog_14_method_87_code 23 = .ok (.invokestatic 440, 3) := by decide +kernel
theorem d_Mod_mealsBy_26 : decode prog_14_method_87_code 26 = .ok (.idiv, 1) := by decide +kernel
theorem d_Mod_mealsBy_27 : decode prog_14_method_87_code 27 = .ok (.bipush 6, 2) := by decide +kernel
theorem d_Mod_mealsBy_29 : decode prog_14_method_87_code 29 = .ok (.irem, 1) := by decide +kernel
theorem d_Mod_mealsBy_30 : decode prog_14_method_87_code 30 = .ok (.iconst 1, 1) := by decide +kernel
theorem d_Mod_mealsBy_31 : decode prog_14_method_87_code 31 = .ok (.isub, 1) := by decide +kernel
theorem d_Mod_mealsBy_32 : decode prog_14_method_87_code 32 = .ok (.istore 7, 2) := by decide +kernel
theorem d_Mod_mealsBy_34 : decode prog_14_method_87_code 34 = .ok (.iload 7, 2) := by decide +kernel
theorem d_Mod_mealsBy_36 : decode prog_14_method_87_code 36 = .ok (.aload_n 0, 1) := by decide +kernel
theorem d_Mod_mealsBy_37 : decode prog_14_method_87_code 37 = .ok (.getfield 58, 3) := by decide +kernel
theorem d_Mod_mealsBy_40 : decode prog_14_method_87_code 40 = .ok (.aload_n 0, 1) := by decide +kernel
theorem d_Mod_mealsBy_41 : decode prog_14_method_87_code 41 = .ok (.getfield 236, 3) := by decide +kernel
theorem d_Mod_mealsBy_44 : decode prog_14_method_87_code 44 = .ok (.iaload, 1) := by decide +kernel
theorem d_Mod_mealsBy_45 : decode prog_14_method_87_code 45 = .ok (.if_icmp .lt 5, 3) := by decide +kernel
theorem d_Mod_mealsBy_48 : decode prog_14_method_87_code 48 = .ok (.iconst (-1), 1) := by decide +kernel
theorem d_Mod_mealsBy_49 : decode prog_14_method_87_code 49 = .ok (.ireturn, 1) := by decide +kernel
theorem d_Mod_mealsBy_50 : decode prog_14_method_87_code 50 = .ok (.iload 7, 2) := by decide +kernel
theorem d_Mod_mealsBy_52 : decode prog_14_method_87_code 52 = .ok (.ifCond .lt 13, 3) := by decide +kernel
theorem d_Mod_mealsBy_55 : decode prog_14_method_87_code 55 = .ok (.aload_n 0, 1) := by decide +kernel
theorem d_Mod_mealsBy_56 : decode prog_14_method_87_code 56 = .ok (.iload_n 2, 1) := by decide +kernel
theorem d_Mod_mealsBy_57 : decode prog_14_method_87_code 57 = .ok (.iload 7, 2) := by decide +kernel
theorem d_Mod_mealsBy_59 : decode prog_14_method_87_code 59 = .ok (.invokevirtual 431, 3) := by decide +kernel
theorem d_Mod_mealsBy_62 : decode prog_14_method_87_code 62 = .ok (.iinc 5 1, 3) := by decide +kernel
theorem d_Mod_mealsBy_65 : decode prog_14_method_87_code 65 = .ok (.iload 4, 2) := by decide +kernel
theorem d_Mod_mealsBy_67 : decode prog_14_method_87_code 67 = .ok (.aload_n 0, 1) := by decide +kernel
theorem d_Mod_mealsBy_68 : decode prog_14_method_87_code 68 = .ok (.iload_n 2, 1) := by decide +kernel
theorem d_Mod_mealsBy_69 : decode prog_14_method_87_code 69 = .ok (.invokevirtual 395, 3) := by decide +kernel
theorem d_Mod_mealsBy_72 : decode prog_14_method_87_code 72 = .ok (.iconst (-1), 1) := by decide +kernel
theorem d_Mod_mealsBy_73 : decode prog_14_method_87_code 73 = .ok (.ixor, 1) := by decide +kernel
theorem d_Mod_mealsBy_74 : decode prog_14_method_87_code 74 = .ok (.iand, 1) := by decide +kernel
theorem d_Mod_mealsBy_75 : decode prog_14_method_87_code 75 = .ok (.ifCond .eq 5, 3) := by decide +kernel
theorem d_Mod_mealsBy_78 : decode prog_14_method_87_code 78 = .ok (.iconst (-1), 1) := by decide +kernel
theorem d_Mod_mealsBy_79 : decode prog_14_method_87_code 79 = .ok (.ireturn, 1) := by decide +kernel
theorem d_Mod_mealsBy_80 : decode prog_14_method_87_code 80 = .ok (.aload_n 0, 1) := by decide +kernel
theorem d_Mod_mealsBy_81 : decode prog_14_method_87_code 81 = .ok (.getfield 125, 3) := by decide +kernel
theorem d_Mod_mealsBy_84 : decode prog_14_method_87_code 84 = .ok (.bipush 35, 2) := by decide +kernel
theorem d_Mod_mealsBy_86 : decode prog_14_method_87_code 86 = .ok (.dup2, 1) := by decide +kernel
theorem d_Mod_mealsBy_87 : decode prog_14_method_87_code 87 = .ok (.iaload, 1) := by decide +kernel
theorem d_Mod_mealsBy_88 : decode prog_14_method_87_code 88 = .ok (.iconst 1, 1) := by decide +kernel
theorem d_Mod_mealsBy_89 : decode prog_14_method_87_code 89 = .ok (.iadd, 1) := by decide +kernel
theorem d_Mod_mealsBy_90 : decode prog_14_method_87_code 90 = .ok (.iastore, 1) := by decide +kernel
theorem d_Mod_mealsBy_91 : decode prog_14_method_87_code 91 = .ok (.iinc 6 1, 3) := by decide +kernel
theorem d_Mod_mealsBy_94 : decode prog_14_method_87_code 94 = .ok (.goto (-84), 3) := by decide +kernel
theorem d_Mod_mealsBy_97 : decode prog_14_method_87_code 97 = .ok (.iload 5, 2) := by decide +kernel
theorem d_Mod_mealsBy_99 : decode prog_14_method_87_code 99 = .ok (.ireturn, 1) := by decide +kernel
theorem d_Mod_menu_0 : decode prog_14_method_88_code 0 = .ok (.aload_n 0, 1) := by decide +kernel
theorem d_Mod_menu_1 : decode prog_14_method_88_code 1 = .ok (.iload_n 1, 1) := by decide +kernel
theorem d_Mod_menu_2 : decode prog_14_method_88_code 2 = .ok (.invokevirtual 380, 3) := by decide +kernel
theorem d_Mod_menu_5 : decode prog_14_method_88_code 5 = .ok (.ifCond .eq 45, 3) := by decide +kernel
theorem d_Mod_menu_8 : decode prog_14_method_88_code 8 = .ok (.iload_n 2, 1) := by decide +kernel
theorem d_Mod_menu_9 : decode prog_14_method_88_code 9 = .ok (.iconst 1, 1) := by decide +kernel
theorem d_Mod_menu_10 : decode prog_14_method_88_code 10 = .ok (.iconst 4, 1) := by decide +kernel
theorem d_Mod_menu_11 : decode prog_14_method_88_code 11 = .ok (.invokestatic 316, 3) := by decide +kernel
theorem d_Mod_menu_14 : decode prog_14_method_88_code 14 = .ok (.ifCond .eq 36, 3) := by decide +kernel
theorem d_Mod_menu_17 : decode prog_14_method_88_code 17 = .ok (.iload_n 3, 1) := by decide +kernel
theorem d_Mod_menu_18 : decode prog_14_method_88_code 18 = .ok (.iconst 0, 1) := by decide +kernel
theorem d_Mod_menu_19 : decode prog_14_method_88_code 19 = .ok (.iconst 1, 1) := by decide +kernel
theorem d_Mod_menu_20 : decode prog_14_method_88_code 20 = .ok (.aload_n 0, 1) := by decide +kernel
theorem d_Mod_menu_21 : decode prog_14_method_88_code 21 = .ok (.getfield 73, 3) := by decide +kernel
theorem d_Mod_menu_24 : decode prog_14_method_88_code 24 = .ok (.aload_n 0, 1) := by decide +kernel
theorem d_Mod_menu_25 : decode prog_14_method_88_code 25 = .ok (.getfield 236, 3) := by decide +kernel
theorem d_Mod_menu_28 : decode prog_14_method_88_code 28 = .ok (.iaload, 1) := by decide +kernel
theorem d_Mod_menu_29 : decode prog_14_method_88_code 29 = .ok (.ishl, 1) := by decide +kernel
theorem d_Mod_menu_30 : decode prog_14_method_88_code 30 = .ok (.iconst 1, 1) := by decide +kernel
theorem d_Mod_menu_31 : decode prog_14_method_88_code 31 = .ok (.isub, 1) := by decide +kernel
theorem d_Mod_menu_32 : decode prog_14_method_88_code 32 = .ok (.invokestatic 316, 3) := by decide +kernel
theorem d_Mod_menu_35 : decode prog_14_method_88_code 35 = .ok (.ifCond .eq 15, 3) := by decide +kernel
theorem d_Mod_menu_38 : decode prog_14_method_88_code 38 = .ok (.iload 4, 2) := by decide +kernel
theorem d_Mod_menu_40 : decode prog_14_method_88_code 40 = .ok (.iconst (-1), 1) := by decide +kernel
theorem d_Mod_menu_41 : decode prog_14_method_88_code 41 = .ok (.iload_n 2, 1) := by decide +kernel
theorem d_Mod_menu_42 : decode prog_14_method_88_code 42 = .ok (.iconst 1, 1) := by decide +kernel
theorem d_Mod_menu_43 : decode prog_14_method_88_code 43 = .ok (.isub, 1) := by decide +kernel
theorem d_Mod_menu_44 : decode prog_14_method_88_code 44 = .ok (.invokestatic 316, 3) := by decide +kernel
theorem d_Mod_menu_47 : decode prog_14_method_88_code 47 = .ok (.ifCond .ne 5, 3) := by decide +kernel
theorem d_Mod_menu_50 : decode prog_14_method_88_code 50 = .ok (.iconst (-1), 1) := by decide +kernel
theorem d_Mod_menu_51 : decode prog_14_method_88_code 51 = .ok (.ireturn, 1) := by decide +kernel
theorem d_Mod_menu_52 : decode prog_14_method_88_code 52 = .ok (.iconst (-1), 1) := by decide +kernel
theorem d_Mod_menu_53 : decode prog_14_method_88_code 53 = .ok (.istore 5, 2) := by decide +kernel
theorem d_Mod_menu_55 : decode prog_14_method_88_code 55 = .ok (.iconst 0, 1) := by decide +kernel
theorem d_Mod_menu_56 : decode prog_14_method_88_code 56 = .ok (.istore 6, 2) := by decide +kernel
theorem d_Mod_menu_58 : decode prog_14_method_88_code 58 = .ok (.iconst 0, 1) := by decide +kernel
theorem d_Mod_menu_59 : decode prog_14_method_88_code 59 = .ok (.istore 7, 2) := by decide +kernel
theorem d_Mod_menu_61 : decode prog_14_method_88_code 61 = .ok (.iload 7, 2) := by decide +kernel
theorem d_Mod_menu_63 : decode prog_14_method_88_code 63 = .ok (.iload_n 2, 1) := by decide +kernel
theorem d_Mod_menu_64 : decode prog_14_method_88_code 64 = .ok (.invokestatic 440, 3) := by decide +kernel
theorem d_Mod_menu_67 : decode prog_14_method_88_code 67 = .ok (.if_icmp .ge 48, 3) := by decide +kernel
theorem d_Mod_menu_70 : decode prog_14_method_88_code 70 = .ok (.aload_n 0, 1) := by decide +kernel
theorem d_Mod_menu_71 : decode prog_14_method_88_code 71 = .ok (.iload 7, 2) := by decide +kernel
theorem d_Mod_menu_73 : decode prog_14_method_88_code 73 = .ok (.iload_n 1, 1) := by decide +kernel
theorem d_Mod_menu_74 : decode prog_14_method_88_code 74 = .ok (.iload_n 2, 1) := by decide +kernel
theorem d_Mod_menu_75 : decode prog_14_method_88_code 75 = .ok (.iload_n 3, 1) := by decide +kernel
theorem d_Mod_menu_76 : decode prog_14_method_88_code 76 = .ok (.invokevirtual 443, 3) := by decide +kernel
theorem d_Mod_menu_79 : decode prog_14_method_88_code 79 = .ok (.istore 8, 2) := by decide +kernel
theorem d_Mod_menu_81 : decode prog_14_method_88_code 81 = .ok (.iload 8, 2) := by decide +kernel
theorem d_Mod_menu_83 : decode prog_14_method_88_code 83 = .ok (.ifCond .lt 26, 3) := by decide +kernel
theorem d_Mod_menu_86 : decode prog_14_method_88_code 86 = .ok (.iload 5, 2) := by decide +kernel
theorem d_Mod_menu_88 : decode prog_14_method_88_code 88 = .ok (.ifCond .lt 13, 3) := by decide +kernel
theorem d_Mod_menu_91 : decode prog_14_method_88_code 91 = .ok (.iload 8, 2) := by decide +kernel
theorem d_Mod_menu_93 : decode prog_14_method_88_code 93 = .ok (.iload 6, 2) := by decide +kernel
theorem d_Mod_menu_95 : decode prog_14_method_88_code 95 = .ok (.if_icmp .lt 6, 3) := by decide +kernel
theorem d_Mod_menu_98 : decode prog_14_method_88_code 98 = .ok (.goto 11, 3) := by decide +kernel
theorem d_Mod_menu_101 : decode prog_14_method_88_code 101 = .ok (.iload 7, 2) := by decide +kernel
theorem d_Mod_menu_103 : decode prog_14_method_88_code 103 = .ok (.istore 5, 2) := by decide +kernel
theorem d_Mod_menu_105 : decode prog_14_method_88_code 105 = .ok (.iload 8, 2) := by decide +kernel
theorem d_Mod_menu_107 : decode prog_14_method_88_code 107 = .ok (.istore 6, 2) := by decide +kernel
theorem d_Mod_menu_109 : decode prog_14_method_88_code 109 = .ok (.iinc 7 1, 3) := by decide +kernel
theorem d_Mod_menu_112 : decode prog_14_method_88_code 112 = .ok (.goto (-51), 3) := by decide +kernel
theorem d_Mod_menu_115 : decode prog_14_method_88_code 115 = .ok (.iload 5, 2) := by decide +kernel
theorem d_Mod_menu_117 : decode prog_14_method_88_code 117 = .ok (.ifCond .ge 17, 3) := by decide +kernel
theorem d_Mod_menu_120 : decode prog_14_method_88_code 120 = .ok (.iload 4, 2) := by decide +kernel
theorem d_Mod_menu_122 : decode prog_14_method_88_code 122 = .ok (.iconst (-1), 1) := by decide +kernel
theorem d_Mod_menu_123 : decode prog_14_method_88_code 123 = .ok (.if_icmp .ne 8, 3) := by decide +kernel
theorem d_Mod_menu_126 : decode prog_14_method_88_code 126 = .ok (.bipush (-2), 2) := by decide +kernel
theorem d_Mod_menu_128 : decode prog_14_method_88_code 128 = .ok (.goto 5, 3) := by decide +kernel
theorem d_Mod_menu_131 : decode prog_14_method_88_code 131 = .ok (.bipush (-3), 2) := by decide +kernel
theorem d_Mod_menu_133 : decode prog_14_method_88_code 133 = .ok (.ireturn, 1) := by decide +kernel
theorem d_Mod_menu_134 : decode prog_14_method_88_code 134 = .ok (.iload 4, 2) := by decide +kernel
theorem d_Mod_menu_136 : decode prog_14_method_88_code 136 = .ok (.iconst (-1), 1) := by decide +kernel
theorem d_Mod_menu_137 : decode prog_14_method_88_code 137 = .ok (.if_icmp .ne 6, 3) := by decide +kernel
theorem d_Mod_menu_140 : decode prog_14_method_88_code 140 = .ok (.iload 6, 2) := by decide +kernel
theorem d_Mod_menu_142 : decode prog_14_method_88_code 142 = .ok (.ireturn, 1) := by decide +kernel
theorem d_Mod_menu_143 : decode prog_14_method_88_code 143 = .ok (.iload 5, 2) := by decide +kernel
theorem d_Mod_menu_145 : decode prog_14_method_88_code 145 = .ok (.iload_n 2, 1) := by decide +kernel
theorem d_Mod_menu_146 : decode prog_14_method_88_code 146 = .ok (.iconst 1, 1) := by decide +kernel
theorem d_Mod_menu_147 : decode prog_14_method_88_code 147 = .ok (.isub, 1) := by decide +kernel
theorem d_Mod_menu_148 : decode prog_14_method_88_code 148 = .ok (.iload 4, 2) := by decide +kernel
theorem d_Mod_menu_150 : decode prog_14_method_88_code 150 = .ok (.isub, 1) := by decide +kernel
theorem d_Mod_menu_151 : decode prog_14_method_88_code 151 = .ok (.invokestatic 440, 3) := by decide +kernel
theorem d_Mod_menu_154 : decode prog_14_method_88_code 154 = .ok (.idiv, 1) := by decide +kernel
theorem d_Mod_menu_155 : decode prog_14_method_88_code 155 = .ok (.bipush 6, 2) := by decide +kernel
theorem d_Mod_menu_157 : decode prog_14_method_88_code 157 = .ok (.irem, 1) := by decide +kernel
theorem d_Mod_menu_158 : decode prog_14_method_88_code 158 = .ok (.iconst 1, 1) := by decide +kernel
theorem d_Mod_menu_159 : decode prog_14_method_88_code 159 = .ok (.isub, 1) := by decide +kernel
theorem d_Mod_menu_160 : decode prog_14_method_88_code 160 = .ok (.istore 7, 2) := by decide +kernel
theorem d_Mod_menu_162 : decode prog_14_method_88_code 162 = .ok (.iload 7, 2) := by decide +kernel
theorem d_Mod_menu_164 : decode prog_14_method_88_code 164 = .ok (.ifCond .ge 8, 3) := by decide +kernel
theorem d_Mod_menu_167 : decode prog_14_method_88_code 167 = .ok (.bipush (-2), 2) := by decide +kernel
theorem d_Mod_menu_169 : decode prog_14_method_88_code 169 = .ok (.goto 5, 3) := by decide +kernel
theorem d_Mod_menu_172 : decode prog_14_method_88_code 172 = .ok (.iload 7, 2) := by decide +kernel
theorem d_Mod_menu_174 : decode prog_14_method_88_code 174 = .ok (.ireturn, 1) := by decide +kernel
theorem d_Mod_often_0 : decode prog_14_method_89_code 0 = .ok (.aload_n 0, 1) := by decide +kernel
theorem d_Mod_often_1 : decode prog_14_method_89_code 1 = .ok (.iload_n 1, 1) := by decide +kernel
theorem d_Mod_often_2 : decode prog_14_method_89_code 2 = .ok (.invokevirtual 374, 3) := by decide +kernel
theorem d_Mod_often_5 : decode prog_14_method_89_code 5 = .ok (.ifCond .ne 5, 3) := by decide +kernel
theorem d_Mod_often_8 : decode prog_14_method_89_code 8 = .ok (.iconst (-1), 1) := by decide +kernel
theorem d_Mod_often_9 : decode prog_14_method_89_code 9 = .ok (.ireturn, 1) := by decide +kernel
theorem d_Mod_often_10 : decode prog_14_method_89_code 10 = .ok (.aload_n 0, 1) := by decide +kernel
theorem d_Mod_often_11 : decode prog_14_method_89_code 11 = .ok (.invokevirtual 377, 3) := by decide +kernel
theorem d_Mod_often_14 : decode prog_14_method_89_code 14 = .ok (.aload_n 0, 1) := by decide +kernel
theorem d_Mod_often_15 : decode prog_14_method_89_code 15 = .ok (.iload_n 1, 1) := by decide +kernel
theorem d_Mod_often_16 : decode prog_14_method_89_code 16 = .ok (.invokevirtual 356, 3) := by decide +kernel
theorem d_Mod_often_19 : decode prog_14_method_89_code 19 = .ok (.sipush 999, 3) := by decide +kernel
theorem d_Mod_often_22 : decode prog_14_method_89_code 22 = .ok (.istore_n 2, 1) := by decide +kernel
theorem d_Mod_often_23 : decode prog_14_method_89_code 23 = .ok (.iconst 0, 1) := by decide +kernel
theorem d_Mod_often_24 : decode prog_14_method_89_code 24 = .ok (.istore_n 3, 1) := by decide +kernel
theorem d_Mod_often_25 : decode prog_14_method_89_code 25 = .ok (.iload_n 3, 1) := by decide +kernel
theorem d_Mod_often_26 : decode prog_14_method_89_code 26 = .ok (.aload_n 0, 1) := by decide +kernel
theorem d_Mod_often_27 : decode prog_14_method_89_code 27 = .ok (.getfield 46, 3) := by decide +kernel
theorem d_Mod_often_30 : decode prog_14_method_89_code 30 = .ok (.aload_n 0, 1) := by decide +kernel
theorem d_Mod_often_31 : decode prog_14_method_89_code 31 = .ok (.getfield 236, 3) := by decide +kernel
theorem d_Mod_often_34 : decode prog_14_method_89_code 34 = .ok (.iaload, 1) := by decide +kernel
theorem d_Mod_often_35 : decode prog_14_method_89_code 35 = .ok (.if_icmp .ge 49, 3) := by decide +kernel
theorem d_Mod_often_38 : decode prog_14_method_89_code 38 = .ok (.aload_n 0, 1) := by decide +kernel
theorem d_Mod_often_39 : decode prog_14_method_89_code 39 = .ok (.getfield 128, 3) := by decide +kernel
theorem d_Mod_often_42 : decode prog_14_method_89_code 42 = .ok (.iload_n 3, 1) := by decide +kernel
theorem d_Mod_often_43 : decode prog_14_method_89_code 43 = .ok (.iaload, 1) := by decide +kernel
theorem d_Mod_often_44 : decode prog_14_method_89_code 44 = .ok (.ifCond .le 34, 3) := by decide +kernel
theorem d_Mod_often_47 : decode prog_14_method_89_code 47 = .ok (.aload_n 0, 1) := by decide +kernel
theorem d_Mod_often_48 : decode prog_14_method_89_code 48 = .ok (.getfield 125, 3) := by decide +kernel
theorem d_Mod_often_51 : decode prog_14_method_89_code 51 = .ok (.iload_n 3, 1) := by decide +kernel
theorem d_Mod_often_52 : decode prog_14_method_89_code 52 = .ok (.iaload, 1) := by decide +kernel
theorem d_Mod_often_53 : decode prog_14_method_89_code 53 = .ok (.aload_n 0, 1) := by decide +kernel
theorem d_Mod_often_54 : decode prog_14_method_89_code 54 = .ok (.getfield 128, 3) := by decide +kernel
theorem d_Mod_often_57 : decode prog_14_method_89_code 57 = .ok (.iload_n 3, 1) := by decide +kernel
theorem d_Mod_often_58 : decode prog_14_method_89_code 58 = .ok (.iaload, 1) := by decide +kernel
theorem d_Mod_often_59 : decode prog_14_method_89_code 59 = .ok (.idiv, 1) := by decide +kernel
theorem d_Mod_often_60 : decode prog_14_method_89_code 60 = .ok (.iload_n 2, 1) := by decide +kernel
theorem d_Mod_often_61 : decode prog_14_method_89_code 61 = .ok (.if_icmp .ge 17, 3) := by decide +kernel
theorem d_Mod_often_64 : decode prog_14_method_89_code 64 = .ok (.aload_n 0, 1) := by decide +kernel
theorem d_Mod_often_65 : decode prog_14_method_89_code 65 = .ok (.getfield 125, 3) := by decide +kernel
theorem d_Mod_often_68 : decode prog_14_method_89_code 68 = .ok (.iload_n 3, 1) := by decide +kernel
theorem d_Mod_often_69 : decode prog_14_method_89_code 69 = .ok (.iaload, 1) := by decide +kernel
theorem d_Mod_often_70 : decode prog_14_method_89_code 70 = .ok (.aload_n 0, 1) := by decide +kernel
theorem d_Mod_often_71 : decode prog_14_method_89_code 71 = .ok (.getfield 128, 3) := by decide +kernel
theorem d_Mod_often_74 : decode prog_14_method_89_code 74 = .ok (.iload_n 3, 1) := by decide +kernel
theorem d_Mod_often_75 : decode prog_14_method_89_code 75 = .ok (.iaload, 1) := by decide +kernel
theorem d_Mod_often_76 : decode prog_14_method_89_code 76 = .ok (.idiv, 1) := by decide +kernel
theorem d_Mod_often_77 : decode prog_14_method_89_code 77 = .ok (.istore_n 2, 1) := by decide +kernel
theorem d_Mod_often_78 : decode prog_14_method_89_code 78 = .ok (.iinc 3 1, 3) := by decide +kernel
theorem d_Mod_often_81 : decode prog_14_method_89_code 81 = .ok (.goto (-56), 3) := by decide +kernel
theorem d_Mod_often_84 : decode prog_14_method_89_code 84 = .ok (.iload_n 2, 1) := by decide +kernel
theorem d_Mod_often_85 : decode prog_14_method_89_code 85 = .ok (.ireturn, 1) := by decide +kernel
theorem d_Mod_hunger_0 : decode prog_14_method_90_code 0 = .ok (.aload_n 0, 1) := by decide +kernel
theorem d_Mod_hunger_1 : decode prog_14_method_90_code 1 = .ok (.iload_n 1, 1) := by decide +kernel
theorem d_Mod_hunger_2 : decode prog_14_method_90_code 2 = .ok (.invokevirtual 380, 3) := by decide +kernel
theorem d_Mod_hunger_5 : decode prog_14_method_90_code 5 = .ok (.ifCond .eq 11, 3) := by decide +kernel
theorem d_Mod_hunger_8 : decode prog_14_method_90_code 8 = .ok (.aload_n 0, 1) := by decide +kernel
theorem d_Mod_hunger_9 : decode prog_14_method_90_code 9 = .ok (.iload_n 2, 1) := by decide +kernel
theorem d_Mod_hunger_10 : decode prog_14_method_90_code 10 = .ok (.invokevirtual 383, 3) := by decide +kernel
theorem d_Mod_hunger_13 : decode prog_14_method_90_code 13 = .ok (.ifCond .ne 5, 3) := by decide +kernel
theorem d_Mod_hunger_16 : decode prog_14_method_90_code 16 = .ok (.iconst (-1), 1) := by decide +kernel
theorem d_Mod_hunger_17 : decode prog_14_method_90_code 17 = .ok (.ireturn, 1) := by decide +kernel
theorem d_Mod_hunger_18 : decode prog_14_method_90_code 18 = .ok (.aload_n 0, 1) := by decide +kernel
theorem d_Mod_hunger_19 : decode prog_14_method_90_code 19 = .ok (.invokevirtual 377, 3) := by decide +kernel
theorem d_Mod_hunger_22 : decode prog_14_method_90_code 22 = .ok (.iconst 0, 1) := by decide +kernel
theorem d_Mod_hunger_23 : decode prog_14_method_90_code 23 = .ok (.istore_n 3, 1) := by decide +kernel
theorem d_Mod_hunger_24 : decode prog_14_method_90_code 24 = .ok (.iload_n 3, 1) := by decide +kernel
theorem d_Mod_hunger_25 : decode prog_14_method_90_code 25 = .ok (.bipush 99, 2) := by decide +kernel
theorem d_Mod_hunger_27 : decode prog_14_method_90_code 27 = .ok (.if_icmp .gt 31, 3) := by decide +kernel
theorem d_Mod_hunger_30 : decode prog_14_method_90_code 30 = .ok (.aload_n 0, 1) := by decide +kernel
theorem d_Mod_hunger_31 : decode prog_14_method_90_code 31 = .ok (.iload_n 1, 1) := by decide +kernel
theorem d_Mod_hunger_32 : decode prog_14_method_90_code 32 = .ok (.iload_n 2, 1) := by decide +kernel
theorem d_Mod_hunger_33 : decode prog_14_method_90_code 33 = .ok (.invokevirtual 352, 3) := by decide +kernel
theorem d_Mod_hunger_36 : decode prog_14_method_90_code 36 = .ok (.ifCond .eq 5, 3) := by decide +kernel
theorem d_Mod_hunger_39 : decode prog_14_method_90_code 39 = .ok (.iload_n 3, 1) := by decide +kernel
theorem d_Mod_hunger_40 : decode prog_14_method_90_code 40 = .ok (.ireturn, 1) := by decide +kernel
theorem d_Mod_hunger_41 : decode prog_14_method_90_code 41 = .ok (.aload_n 0, 1) := by decide +kernel
theorem d_Mod_hunger_42 : decode prog_14_method_90_code 42 = .ok (.getfield 125, 3) := by decide +kernel
theorem d_Mod_hunger_45 : decode prog_14_method_90_code 45 = .ok (.bipush 35, 2) := by decide +kernel
theorem d_Mod_hunger_47 : decode prog_14_method_90_code 47 = .ok (.dup2, 1) := by decide +kernel
theorem d_Mod_hunger_48 : decode prog_14_method_90_code 48 = .ok (.iaload, 1) := by decide +kernel
theorem d_Mod_hunger_49 : decode prog_14_method_90_code 49 = .ok (.iconst 1, 1) := by decide +kernel
theorem d_Mod_hunger_50 : decode prog_14_method_90_code 50 = .ok (.iadd, 1) := by decide +kernel
theorem d_Mod_hunger_51 : decode prog_14_method_90_code 51 = .ok (.iastore, 1) := by decide +kernel
theorem d_Mod_hunger_52 : decode prog_14_method_90_code 52 = .ok (.iinc 3 1, 3) := by decide +kernel
theorem d_Mod_hunger_55 : decode prog_14_method_90_code 55 = .ok (.goto (-31), 3) := by decide +kernel
theorem d_Mod_hunger_58 : decode prog_14_method_90_code 58 = .ok (.bipush (-2), 2) := by decide +kernel
theorem d_Mod_hunger_60 : decode prog_14_method_90_code 60 = .ok (.ireturn, 1) := by decide +kernel
theorem d_Mod_isLong_0 : decode prog_14_method_91_code 0 = .ok (.iload_n 0, 1) := by decide +kernel
theorem d_Mod_isLong_1 : decode prog_14_method_91_code 1 = .ok (.iconst 0, 1) := by decide +kernel
theorem d_Mod_isLong_2 : decode prog_14_method_91_code 2 = .ok (.bipush 60, 2) := by decide +kernel
theorem d_Mod_isLong_4 : decode prog_14_method_91_code 4 = .ok (.invokestatic 316, 3) := by decide +kernel
theorem d_Mod_isLong_7 : decode prog_14_method_91_code 7 = .ok (.ireturn, 1) := by decide +kernel
theorem d_Mod_stockIn_0 : decode prog_14_method_92_code 0 = .ok (.aload_n 0, 1) := by decide +kernel
theorem d_Mod_stockIn_1 : decode prog_14_method_92_code 1 = .ok (.iload_n 1, 1) := by decide +kernel
theorem d_Mod_stockIn_2 : decode prog_14_method_92_code 2 = .ok (.invokevirtual 371, 3) := by decide +kernel
theorem d_Mod_stockIn_5 : decode prog_14_method_92_code 5 = .ok (.ifCond .eq 10, 3) := by decide +kernel
theorem d_Mod_stockIn_8 : decode prog_14_method_92_code 8 = .ok (.iload_n 2, 1) := by decide +kernel
theorem d_Mod_stockIn_9 : decode prog_14_method_92_code 9 = .ok (.invokestatic 446, 3) := by decide +kernel
theorem d_Mod_stockIn_12 : decode prog_14_method_92_code 12 = .ok (.ifCond .ne 5, 3) := by decide +kernel
theorem d_Mod_stockIn_15 : decode prog_14_method_92_code 15 = .ok (.iconst (-1), 1) := by decide +kernel
theorem d_Mod_stockIn_16 : decode prog_14_method_92_code 16 = .ok (.ireturn, 1) := by decide +kernel
theorem d_Mod_stockIn_17 : decode prog_14_method_92_code 17 = .ok (.aload_n 0, 1) := by decide +kernel
theorem d_Mod_stockIn_18 : decode prog_14_method_92_code 18 = .ok (.invokevirtual 377, 3) := by decide +kernel
theorem d_Mod_stockIn_21 : decode prog_14_method_92_code 21 = .ok (.aload_n 0, 1) := by decide +kernel
theorem d_Mod_stockIn_22 : decode prog_14_method_92_code 22 = .ok (.iload_n 2, 1) := by decide +kernel
theorem d_Mod_stockIn_23 : decode prog_14_method_92_code 23 = .ok (.invokevirtual 398, 3) := by decide +kernel
theorem d_Mod_stockIn_26 : decode prog_14_method_92_code 26 = .ok (.aload_n 0, 1) := by decide +kernel
theorem d_Mod_stockIn_27 : decode prog_14_method_92_code 27 = .ok (.getfield 125, 3) := by decide +kernel
theorem d_Mod_stockIn_30 : decode prog_14_method_92_code 30 = .ok (.iload_n 1, 1) := by decide +kernel
theorem d_Mod_stockIn_31 : decode prog_14_method_92_code 31 = .ok (.iaload, 1) := by decide +kernel
theorem d_Mod_stockIn_32 : decode prog_14_method_92_code 32 = .ok (.ireturn, 1) := by decide +kernel
theorem d_Mod_boundIn_0 : decode prog_14_method_93_code 0 = .ok (.aload_n 0, 1) := by decide +kernel
theorem d_Mod_boundIn_1 : decode prog_14_method_93_code 1 = .ok (.iload_n 1, 1) := by decide +kernel
theorem d_Mod_boundIn_2 : decode prog_14_method_93_code 2 = .ok (.invokevirtual 380, 3) := by decide +kernel
theorem d_Mod_boundIn_5 : decode prog_14_method_93_code 5 = .ok (.ifCond .eq 19, 3) := by decide +kernel
theorem d_Mod_boundIn_8 : decode prog_14_method_93_code 8 = .ok (.iload_n 2, 1) := by decide +kernel
theorem d_Mod_boundIn_9 : decode prog_14_method_93_code 9 = .ok (.iconst 0, 1) := by decide +kernel
theorem d_Mod_boundIn_10 : decode prog_14_method_93_code 10 = .ok (.iconst 2, 1) := by decide +kernel
theorem d_Mod_boundIn_11 : decode prog_14_method_93_code 11 = .ok (.invokestatic 316, 3) := by decide +kernel
theorem d_Mod_boundIn_14 : decode prog_14_method_93_code 14 = .ok (.ifCond .eq 10, 3) := by decide +kernel
theorem d_Mod_boundIn_17 : decode prog_14_method_93_code 17 = .ok (.iload_n 3, 1) := by decide +kernel
theorem d_Mod_boundIn_18 : decode prog_14_method_93_code 18 = .ok (.invokestatic 446, 3) := by decide +kernel
theorem d_Mod_boundIn_21 : decode prog_14_method_93_code 21 = .ok (.ifCond .ne 5, 3) := by decide +kernel
theorem d_Mod_boundIn_24 : decode prog_14_method_93_code 24 = .ok (.iconst (-1), 1) := by decide +kernel
theorem d_Mod_boundIn_25 : decode prog_14_method_93_code 25 = .ok (.ireturn, 1) := by decide +kernel
theorem d_Mod_boundIn_26 : decode prog_14_method_93_code 26 = .ok (.aload_n 0, 1) := by decide +kernel
theorem d_Mod_boundIn_27 : decode prog_14_method_93_code 27 = .ok (.invokevirtual 377, 3) := by decide +kernel
theorem d_Mod_boundIn_30 : decode prog_14_method_93_code 30 = .ok (.aload_n 0, 1) := by decide +kernel
theorem d_Mod_boundIn_31 : decode prog_14_method_93_code 31 = .ok (.getfield 125, 3) := by decide +kernel
theorem d_Mod_boundIn_34 : decode prog_14_method_93_code 34 = .ok (.bipush 35, 2) := by decide +kernel
theorem d_Mod_boundIn_36 : decode prog_14_method_93_code 36 = .ok (.dup2, 1) := by decide +kernel
theorem d_Mod_boundIn_37 : decode prog_14_method_93_code 37 = .ok (.iaload, 1) := by decide +kernel
theorem d_Mod_boundIn_38 : decode prog_14_method_93_code 38 = .ok (.iload_n 3, 1) := by decide +kernel
theorem d_Mod_boundIn_39 : decode prog_14_method_93_code 39 = .ok (.iadd, 1) := by decide +kernel
theorem d_Mod_boundIn_40 : decode prog_14_method_93_code 40 = .ok (.iastore, 1) := by decide +kernel
theorem d_Mod_boundIn_41 : decode prog_14_method_93_code 41 = .ok (.aload_n 0, 1) := by decide +kernel
theorem d_Mod_boundIn_42 : decode prog_14_method_93_code 42 = .ok (.iload_n 1, 1) := by decide +kernel
theorem d_Mod_boundIn_43 : decode prog_14_method_93_code 43 = .ok (.iload_n 2, 1) := by decide +kernel
theorem d_Mod_boundIn_44 : decode prog_14_method_93_code 44 = .ok (.invokevirtual 349, 3) := by decide +kernel
theorem d_Mod_boundIn_47 : decode prog_14_method_93_code 47 = .ok (.ireturn, 1) := by decide +kernel
theorem d_Mod_year_0 : decode prog_14_method_94_code 0 = .ok (.aload_n 0, 1) := by decide +kernel
theorem d_Mod_year_1 : decode prog_14_method_94_code 1 = .ok (.iload_n 1, 1) := by decide +kernel
theorem d_Mod_year_2 : decode prog_14_method_94_code 2 = .ok (.invokevirtual 374, 3) := by decide +kernel
theorem d_Mod_year_5 : decode prog_14_method_94_code 5 = .ok (.ifCond .eq 33, 3) := by decide +kernel
theorem d_Mod_year_8 : decode prog_14_method_94_code 8 = .ok (.iload_n 2, 1) := by decide +kernel
theorem d_Mod_year_9 : decode prog_14_method_94_code 9 = .ok (.iconst 0, 1) := by decide +kernel
theorem d_Mod_year_10 : decode prog_14_method_94_code 10 = .ok (.iconst 2, 1) := by decide +kernel
theorem d_Mod_year_11 : decode prog_14_method_94_code 11 = .ok (.invokestatic 316, 3) := by decide +kernel
theorem d_Mod_year_14 : decode prog_14_method_94_code 14 = .ok (.ifCond .eq 24, 3) := by decide +kernel
theorem d_Mod_year_17 : decode prog_14_method_94_code 17 = .ok (.iload_n 3, 1) := by decide +kernel
theorem d_Mod_year_18 : decode prog_14_method_94_code 18 = .ok (.iconst 0, 1) := by decide +kernel
theorem d_Mod_year_19 : decode prog_14_method_94_code 19 = .ok (.bipush 99, 2) := by decide +kernel
theorem d_Mod_year_21 : decode prog_14_method_94_code 21 = .ok (.invokestatic 316, 3) := by decide +kernel
theorem d_Mod_year_24 : decode prog_14_method_94_code 24 = .ok (.ifCond .eq 14, 3) := by decide +kernel
theorem d_Mod_year_27 : decode prog_14_method_94_code 27 = .ok (.iload 4, 2) := by decide +kernel
theorem d_Mod_year_29 : decode prog_14_method_94_code 29 = .ok (.iconst 1, 1) := by decide +kernel
theorem d_Mod_year_30 : decode prog_14_method_94_code 30 = .ok (.bipush 20, 2) := by decide +kernel
theorem d_Mod_year_32 : decode prog_14_method_94_code 32 = .ok (.invokestatic 316, 3) := by decide +kernel
theorem d_Mod_year_35 : decode prog_14_method_94_code 35 = .ok (.ifCond .ne 5, 3) := by decide +kernel
theorem d_Mod_year_38 : decode prog_14_method_94_code 38 = .ok (.iconst (-1), 1) := by decide +kernel
theorem d_Mod_year_39 : decode prog_14_method_94_code 39 = .ok (.ireturn, 1) := by decide +kernel
theorem d_Mod_year_40 : decode prog_14_method_94_code 40 = .ok (.aload_n 0, 1) := by decide +kernel
theorem d_Mod_year_41 : decode prog_14_method_94_code 41 = .ok (.invokevirtual 377, 3) := by decide +kernel
theorem d_Mod_year_44 : decode prog_14_method_94_code 44 = .ok (.aload_n 0, 1) := by decide +kernel
theorem d_Mod_year_45 : decode prog_14_method_94_code 45 = .ok (.iload_n 1, 1) := by decide +kernel
theorem d_Mod_year_46 : decode prog_14_method_94_code 46 = .ok (.invokevirtual 386, 3) := by decide +kernel
theorem d_Mod_year_49 : decode prog_14_method_94_code 49 = .ok (.ifCond .ne 6, 3) := by decide +kernel
theorem d_Mod_year_52 : decode prog_14_method_94_code 52 = .ok (.bipush (-2), 2) := by decide +kernel
theorem d_Mod_year_54 : decode prog_14_method_94_code 54 = .ok (.ireturn, 1) := by decide +kernel
theorem d_Mod_year_55 : decode prog_14_method_94_code 55 = .ok (.iconst 0, 1) := by decide +kernel
theorem d_Mod_year_56 : decode prog_14_method_94_code 56 = .ok (.istore 5, 2) := by decide +kernel
theorem d_Mod_year_58 : decode prog_14_method_94_code 58 = .ok (.iconst 0, 1) := by decide +kernel
theorem d_Mod_year_59 : decode prog_14_method_94_code 59 = .ok (.istore 6, 2) := by decide +kernel
theorem d_Mod_year_61 : decode prog_14_method_94_code 61 = .ok (.iload 6, 2) := by decide +kernel
theorem d_Mod_year_63 : decode prog_14_method_94_code 63 = .ok (.iload 4, 2) := by decide +kernel
theorem d_Mod_year_65 : decode prog_14_method_94_code 65 = .ok (.if_icmp .ge 46, 3) := by decide +kernel
theorem d_Mod_year_68 : decode prog_14_method_94_code 68 = .ok (.aload_n 0, 1) := by decide +kernel
theorem d_Mod_year_69 : decode prog_14_method_94_code 69 = .ok (.invokevirtual 377, 3) := by decide +kernel
theorem d_Mod_year_72 : decode prog_14_method_94_code 72 = .ok (.aload_n 0, 1) := by decide +kernel
theorem d_Mod_year_73 : decode prog_14_method_94_code 73 = .ok (.dup, 1) := by decide +kernel
theorem d_Mod_year_74 : decode prog_14_method_94_code 74 = .ok (.getfield 320, 3) := by decide +kernel
theorem d_Mod_year_77 : decode prog_14_method_94_code 77 = .ok (.iload 6, 2) := by decide +kernel
theorem d_Mod_year_79 : decode prog_14_method_94_code 79 = .ok (.iadd, 1) := by decide +kernel
theorem d_Mod_year_80 : decode prog_14_method_94_code 80 = .ok (.putfield 320, 3) := by decide +kernel
theorem d_Mod_year_83 : decode prog_14_method_94_code 83 = .ok (.aload_n 0, 1) := by decide +kernel
theorem d_Mod_year_84 : decode prog_14_method_94_code 84 = .ok (.iload_n 1, 1) := by decide +kernel
theorem d_Mod_year_85 : decode prog_14_method_94_code 85 = .ok (.invokevirtual 389, 3) := by decide +kernel
theorem d_Mod_year_88 : decode prog_14_method_94_code 88 = .ok (.pop, 1) := by decide +kernel
theorem d_Mod_year_89 : decode prog_14_method_94_code 89 = .ok (.aload_n 0, 1) := by decide +kernel
theorem d_Mod_year_90 : decode prog_14_method_94_code 90 = .ok (.getfield 125, 3) := by decide +kernel
theorem d_Mod_year_93 : decode prog_14_method_94_code 93 = .ok (.bipush 12, 2) := by decide +kernel
theorem d_Mod_year_95 : decode prog_14_method_94_code 95 = .ok (.iload_n 2, 1) := by decide +kernel
theorem d_Mod_year_96 : decode prog_14_method_94_code 96 = .ok (.iadd, 1) := by decide +kernel
theorem d_Mod_year_97 : decode prog_14_method_94_code 97 = .ok (.iaload, 1) := by decide +kernel
theorem d_Mod_year_98 : decode prog_14_method_94_code 98 = .ok (.iload_n 3, 1) := by decide +kernel
theorem d_Mod_year_99 : decode prog_14_method_94_code 99 = .ok (.if_icmp .lt 6, 3) := by decide +kernel
theorem d_Mod_year_102 : decode prog_14_method_94_code 102 = .ok (.iinc 5 1, 3) := by decide +kernel
theorem d_Mod_year_105 : decode prog_14_method_94_code 105 = .ok (.iinc 6 1, 3) := by decide +kernel
theorem d_Mod_year_108 : decode prog_14_method_94_code 108 = .ok (.goto (-47), 3) := by decide +kernel
theorem d_Mod_year_111 : decode prog_14_method_94_code 111 = .ok (.iload 5, 2) := by decide +kernel
theorem d_Mod_year_113 : decode prog_14_method_94_code 113 = .ok (.ireturn, 1) := by decide +kernel
theorem d_Mod_tell_0 : decode prog_14_method_95_code 0 = .ok (.aload_n 0, 1) := by decide +kernel
theorem d_Mod_tell_1 : decode prog_14_method_95_code 1 = .ok (.getfield 257, 3) := by decide +kernel
theorem d_Mod_tell_4 : decode prog_14_method_95_code 4 = .ok (.bipush 20, 2) := by decide +kernel
theorem d_Mod_tell_6 : decode prog_14_method_95_code 6 = .ok (.if_icmp .eq 32, 3) := by decide +kernel
theorem d_Mod_tell_9 : decode prog_14_method_95_code 9 = .ok (.iload_n 1, 1) := by decide +kernel
theorem d_Mod_tell_10 : decode prog_14_method_95_code 10 = .ok (.iconst 0, 1) := by decide +kernel
theorem d_Mod_tell_11 : decode prog_14_method_95_code 11 = .ok (.iconst 2, 1) := by decide +kernel
theorem d_Mod_tell_12 : decode prog_14_method_95_code 12 = .ok (.invokestatic 316, 3) := by decide +kernel
theorem d_Mod_tell_15 : decode prog_14_method_95_code 15 = .ok (.ifCond .eq 23, 3) := by decide +kernel
theorem d_Mod_tell_18 : decode prog_14_method_95_code 18 = .ok (.iload_n 2, 1) := by decide +kernel
theorem d_Mod_tell_19 : decode prog_14_method_95_code 19 = .ok (.iconst 0, 1) := by decide +kernel
theorem d_Mod_tell_20 : decode prog_14_method_95_code 20 = .ok (.bipush 9, 2) := by decide +kernel
theorem d_Mod_tell_22 : decode prog_14_method_95_code 22 = .ok (.invokestatic 316, 3) := by decide +kernel
theorem d_Mod_tell_25 : decode prog_14_method_95_code 25 = .ok (.ifCond .eq 13, 3) := by decide +kernel
theorem d_Mod_tell_28 : decode prog_14_method_95_code 28 = .ok (.iload_n 3, 1) := by decide +kernel
theorem d_Mod_tell_29 : decode prog_14_method_95_code 29 = .ok (.iconst 0, 1) := by decide +kernel
theorem d_Mod_tell_30 : decode prog_14_method_95_code 30 = .ok (.bipush 99, 2) := by decide +kernel
theorem d_Mod_tell_32 : decode prog_14_method_95_code 32 = .ok (.invokestatic 316, 3) := by decide +kernel
theorem d_Mod_tell_35 : decode prog_14_method_95_code 35 = .ok (.ifCond .ne 5, 3) := by decide +kernel
theorem d_Mod_tell_38 : decode prog_14_method_95_code 38 = .ok (.iconst (-1), 1) := by decide +kernel
theorem d_Mod_tell_39 : decode prog_14_method_95_code 39 = .ok (.ireturn, 1) := by decide +kernel
theorem d_Mod_tell_40 : decode prog_14_method_95_code 40 = .ok (.aload_n 0, 1) := by decide +kernel
theorem d_Mod_tell_41 : decode prog_14_method_95_code 41 = .ok (.getfield 137, 3) := by decide +kernel
theorem d_Mod_tell_44 : decode prog_14_method_95_code 44 = .ok (.aload_n 0, 1) := by decide +kernel
theorem d_Mod_tell_45 : decode prog_14_method_95_code 45 = .ok (.getfield 257, 3) := by decide +kernel
theorem d_Mod_tell_48 : decode prog_14_method_95_code 48 = .ok (.iload_n 1, 1) := by decide +kernel
theorem d_Mod_tell_49 : decode prog_14_method_95_code 49 = .ok (.iastore, 1) := by decide +kernel
theorem d_Mod_tell_50 : decode prog_14_method_95_code 50 = .ok (.aload_n 0, 1) := by decide +kernel
theorem d_Mod_tell_51 : decode prog_14_method_95_code 51 = .ok (.getfield 140, 3) := by decide +kernel
theorem d_Mod_tell_54 : decode prog_14_method_95_code 54 = .ok (.aload_n 0, 1) := by decide +kernel
theorem d_Mod_tell_55 : decode prog_14_method_95_code 55 = .ok (.getfield 257, 3) := by decide +kernel
theorem d_Mod_tell_58 : decode prog_14_method_95_code 58 = .ok (.iload_n 2, 1) := by decide +kernel
theorem d_Mod_tell_59 : decode prog_14_method_95_code 59 = .ok (.iastore, 1) := by decide +kernel
theorem d_Mod_tell_60 : decode prog_14_method_95_code 60 = .ok (.aload_n 0, 1) := by decide +kernel
theorem d_Mod_tell_61 : decode prog_14_method_95_code 61 = .ok (.getfield 143, 3) := by decide +kernel
theorem d_Mod_tell_64 : decode prog_14_method_95_code 64 = .ok (.aload_n 0, 1) := by decide +kernel
theorem d_Mod_tell_65 : decode prog_14_method_95_code 65 = .ok (.getfield 257, 3) := by decide +kernel
theorem d_Mod_tell_68 : decode prog_14_method_95_code 68 = .ok (.iload_n 3, 1) := by decide +kernel
theorem d_Mod_tell_69 : decode prog_14_method_95_code 69 = .ok (.iastore, 1) := by decide +kernel
theorem d_Mod_tell_70 : decode prog_14_method_95_code 70 = .ok (.aload_n 0, 1) := by decide +kernel
theorem d_Mod_tell_71 : decode prog_14_method_95_code 71 = .ok (.dup, 1) := by decide +kernel
theorem d_Mod_tell_72 : decode prog_14_method_95_code 72 = .ok (.getfield 257, 3) := by decide +kernel
theorem d_Mod_tell_75 : decode prog_14_method_95_code 75 = .ok (.iconst 1, 1) := by decide +kernel
theorem d_Mod_tell_76 : decode prog_14_method_95_code 76 = .ok (.iadd, 1) := by decide +kernel
theorem d_Mod_tell_77 : decode prog_14_method_95_code 77 = .ok (.putfield 257, 3) := by decide +kernel
theorem d_Mod_tell_80 : decode prog_14_method_95_code 80 = .ok (.aload_n 0, 1) := by decide +kernel
theorem d_Mod_tell_81 : decode prog_14_method_95_code 81 = .ok (.getfield 257, 3) := by decide +kernel
theorem d_Mod_tell_84 : decode prog_14_method_95_code 84 = .ok (.iconst 1, 1) := by decide +kernel
theorem d_Mod_tell_85 : decode prog_14_method_95_code 85 = .ok (.isub, 1) := by decide +kernel
theorem d_Mod_tell_86 : decode prog_14_method_95_code 86 = .ok (.ireturn, 1) := by decide +kernel
theorem d_Mod_forget_0 : decode prog_14_method_96_code 0 = .ok (.aload_n 0, 1) := by decide +kernel
theorem d_Mod_forget_1 : decode prog_14_method_96_code 1 = .ok (.getfield 257, 3) := by decide +kernel
theorem d_Mod_forget_4 : decode prog_14_method_96_code 4 = .ok (.istore_n 1, 1) := by decide +kernel
theorem d_Mod_forget_5 : decode prog_14_method_96_code 5 = .ok (.aload_n 0, 1) := by decide +kernel
theorem d_Mod_forget_6 : decode prog_14_method_96_code 6 = .ok (.iconst 0, 1) := by decide +kernel
theorem d_Mod_forget_7 : decode prog_14_method_96_code 7 = .ok (.putfield 257, 3) := by decide +kernel
theorem d_Mod_forget_10 : decode prog_14_method_96_code 10 = .ok (.iload_n 1, 1) := by decide +kernel
theorem d_Mod_forget_11 : decode prog_14_method_96_code 11 = .ok (.ireturn, 1) := by decide +kernel
theorem d_Mod_fillsWay_0 : decode prog_14_method_97_code 0 = .ok (.aload_n 0, 1) := by decide +kernel
theorem d_Mod_fillsWay_1 : decode prog_14_method_97_code 1 = .ok (.iload_n 1, 1) := by decide +kernel
theorem d_Mod_fillsWay_2 : decode prog_14_method_97_code 2 = .ok (.bipush 13, 2) := by decide +kernel
theorem d_Mod_fillsWay_4 : decode prog_14_method_97_code 4 = .ok (.idiv, 1) := by decide +kernel
theorem d_Mod_fillsWay_5 : decode prog_14_method_97_code 5 = .ok (.invokevirtual 356, 3) := by decide +kernel
theorem d_Mod_fillsWay_8 : decode prog_14_method_97_code 8 = .ok (.iload_n 1, 1) := by decide +kernel
theorem d_Mod_fillsWay_9 : decode prog_14_method_97_code 9 = .ok (.bipush 13, 2) := by decide +kernel
theorem d_Mod_fillsWay_11 : decode prog_14_method_97_code 11 = .ok (.irem, 1) := by decide +kernel
theorem d_Mod_fillsWay_12 : decode prog_14_method_97_code 12 = .ok (.istore_n 2, 1) := by decide +kernel
theorem d_Mod_fillsWay_13 : decode prog_14_method_97_code 13 = .ok (.iload_n 2, 1) := by decide +kernel
theorem d_Mod_fillsWay_14 : decode prog_14_method_97_code 14 = .ok (.ifCond .ne 5, 3) := by decide +kernel
theorem d_Mod_fillsWay_17 : decode prog_14_method_97_code 17 = .ok (.iconst 1, 1) := by decide +kernel
theorem d_Mod_fillsWay_18 : decode prog_14_method_97_code 18 = .ok (.ireturn, 1) := by decide +kernel
theorem d_Mod_fillsWay_19 : decode prog_14_method_97_code 19 = .ok (.iload_n 2, 1) := by decide +kernel
theorem d_Mod_fillsWay_20 : decode prog_14_method_97_code 20 = .ok (.iconst 1, 1) := by decide +kernel
theorem d_Mod_fillsWay_21 : decode prog_14_method_97_code 21 = .ok (.isub, 1) := by decide +kernel
theorem d_Mod_fillsWay_22 : decode prog_14_method_97_code 22 = .ok (.bipush 6, 2) := by decide +kernel
theorem d_Mod_fillsWay_24 : decode prog_14_method_97_code 24 = .ok (.irem, 1) := by decide +kernel
theorem d_Mod_fillsWay_25 : decode prog_14_method_97_code 25 = .ok (.istore_n 3, 1) := by decide +kernel
theorem d_Mod_fillsWay_26 : decode prog_14_method_97_code 26 = .ok (.aload_n 0, 1) := by decide +kernel
theorem d_Mod_fillsWay_27 : decode prog_14_method_97_code 27 = .ok (.iload_n 3, 1) := by decide +kernel
theorem d_Mod_fillsWay_28 : decode prog_14_method_97_code 28 = .ok (.invokevirtual 371, 3) := by decide +kernel
theorem d_Mod_fillsWay_31 : decode prog_14_method_97_code 31 = .ok (.ifCond .ne 5, 3) := by decide +kernel
theorem d_Mod_fillsWay_34 : decode prog_14_method_97_code 34 = .ok (.iconst 0, 1) := by decide +kernel
theorem d_Mod_fillsWay_35 : decode prog_14_method_97_code 35 = .ok (.ireturn, 1) := by decide +kernel
theorem d_Mod_fillsWay_36 : decode prog_14_method_97_code 36 = .ok (.iload_n 2, 1) := by decide +kernel
theorem d_Mod_fillsWay_37 : decode prog_14_method_97_code 37 = .ok (.bipush 6, 2) := by decide +kernel
theorem d_Mod_fillsWay_39 : decode prog_14_method_97_code 39 = .ok (.if_icmp .gt 15, 3) := by decide +kernel
theorem d_Mod_fillsWay_42 : decode prog_14_method_97_code 42 = .ok (.aload_n 0, 1) := by decide +kernel
theorem d_Mod_fillsWay_43 : decode prog_14_method_97_code 43 = .ok (.getfield 128, 3) := by decide +kernel
theorem d_Mod_fillsWay_46 : decode prog_14_method_97_code 46 = .ok (.iload_n 3, 1) := by decide +kernel
theorem d_Mod_fillsWay_47 : decode prog_14_method_97_code 47 = .ok (.dup2, 1) := by decide +kernel
theorem d_Mod_fillsWay_48 : decode prog_14_method_97_code 48 = .ok (.iaload, 1) := by decide +kernel
theorem d_Mod_fillsWay_49 : decode prog_14_method_97_code 49 = .ok (.iconst 1, 1) := by decide +kernel
theorem d_Mod_fillsWay_50 : decode prog_14_method_97_code 50 = .ok (.iadd, 1) := by decide +kernel
theorem d_Mod_fillsWay_51 : decode prog_14_method_97_code 51 = .ok (.iastore, 1) := by decide +kernel
theorem d_Mod_fillsWay_52 : decode prog_14_method_97_code 52 = .ok (.iconst 1, 1) := by decide +kernel
theorem d_Mod_fillsWay_53 : decode prog_14_method_97_code 53 = .ok (.ireturn, 1) := by decide +kernel
theorem d_Mod_fillsWay_54 : decode prog_14_method_97_code 54 = .ok (.aload_n 0, 1) := by decide +kernel
theorem d_Mod_fillsWay_55 : decode prog_14_method_97_code 55 = .ok (.getfield 128, 3) := by decide +kernel
theorem d_Mod_fillsWay_58 : decode prog_14_method_97_code 58 = .ok (.iload_n 3, 1) := by decide +kernel
theorem d_Mod_fillsWay_59 : decode prog_14_method_97_code 59 = .ok (.iaload, 1) := by decide +kernel
theorem d_Mod_fillsWay_60 : decode prog_14_method_97_code 60 = .ok (.ifCond .eq 11, 3) := by decide +kernel
theorem d_Mod_fillsWay_63 : decode prog_14_method_97_code 63 = .ok (.aload_n 0, 1) := by decide +kernel
theorem d_Mod_fillsWay_64 : decode prog_14_method_97_code 64 = .ok (.invokevirtual 339, 3) := by decide +kernel
theorem d_Mod_fillsWay_67 : decode prog_14_method_97_code 67 = .ok (.iconst 2, 1) := by decide +kernel
theorem d_Mod_fillsWay_68 : decode prog_14_method_97_code 68 = .ok (.if_icmp .ge 5, 3) := by decide +kernel
theorem d_Mod_fillsWay_71 : decode prog_14_method_97_code 71 = .ok (.iconst 0, 1) := by decide +kernel
theorem d_Mod_fillsWay_72 : decode prog_14_method_97_code 72 = .ok (.ireturn, 1) := by decide +kernel
theorem d_Mod_fillsWay_73 : decode prog_14_method_97_code 73 = .ok (.aload_n 0, 1) := by decide +kernel
theorem d_Mod_fillsWay_74 : decode prog_14_method_97_code 74 = .ok (.getfield 128, 3) := by decide +kernel
theorem d_Mod_fillsWay_77 : decode prog_14_method_97_code 77 = .ok (.iload_n 3, 1) := by decide +kernel
theorem d_Mod_fillsWay_78 : decode prog_14_method_97_code 78 = .ok (.dup2, 1) := by decide +kernel
theorem d_Mod_fillsWay_79 : decode prog_14_method_97_code 79 = .ok (.iaload, 1) := by decide +kernel
theorem d_Mod_fillsWay_80 : decode prog_14_method_97_code 80 = .ok (.iconst 1, 1) := by decide +kernel
theorem d_Mod_fillsWay_81 : decode prog_14_method_97_code 81 = .ok (.isub, 1) := by decide +kernel
theorem d_Mod_fillsWay_82 : decode prog_14_method_97_code 82 = .ok (.iastore, 1) := by decide +kernel
theorem d_Mod_fillsWay_83 : decode prog_14_method_97_code 83 = .ok (.iconst 1, 1) := by decide +kernel
theorem d_Mod_fillsWay_84 : decode prog_14_method_97_code 84 = .ok (.ireturn, 1) := by decide +kernel
theorem d_Mod_isAsKnown_0 : decode prog_14_method_98_code 0 = .ok (.iconst 0, 1) := by decide +kernel
theorem d_Mod_isAsKnown_1 : decode prog_14_method_98_code 1 = .ok (.istore_n 2, 1) := by decide +kernel
theorem d_Mod_isAsKnown_2 : decode prog_14_method_98_code 2 = .ok (.iload_n 2, 1) := by decide +kernel
theorem d_Mod_isAsKnown_3 : decode prog_14_method_98_code 3 = .ok (.iload_n 1, 1) := by decide +kernel
theorem d_Mod_isAsKnown_4 : decode prog_14_method_98_code 4 = .ok (.if_icmp .ge 36, 3) := by decide +kernel
theorem d_Mod_isAsKnown_7 : decode prog_14_method_98_code 7 = .ok (.aload_n 0, 1) := by decide +kernel
theorem d_Mod_isAsKnown_8 : decode prog_14_method_98_code 8 = .ok (.aload_n 0, 1) := by decide +kernel
theorem d_Mod_isAsKnown_9 : decode prog_14_method_98_code 9 = .ok (.getfield 137, 3) := by decide +kernel
theorem d_Mod_isAsKnown_12 : decode prog_14_method_98_code 12 = .ok (.iload_n 2, 1) := by decide +kernel
theorem d_Mod_isAsKnown_13 : decode prog_14_method_98_code 13 = .ok (.iaload, 1) := by decide +kernel
theorem d_Mod_isAsKnown_14 : decode prog_14_method_98_code 14 = .ok (.aload_n 0, 1) := by decide +kernel
theorem d_Mod_isAsKnown_15 : decode prog_14_method_98_code 15 = .ok (.getfield 140, 3) := by decide +kernel
theorem d_Mod_isAsKnown_18 : decode prog_14_method_98_code 18 = .ok (.iload_n 2, 1) := by decide +kernel
theorem d_Mod_isAsKnown_19 : decode prog_14_method_98_code 19 = .ok (.iaload, 1) := by decide +kernel
theorem d_Mod_isAsKnown_20 : decode prog_14_method_98_code 20 = .ok (.invokevirtual 359, 3) := by decide +kernel
theorem d_Mod_isAsKnown_23 : decode prog_14_method_98_code 23 = .ok (.aload_n 0, 1) := by decide +kernel
theorem d_Mod_isAsKnown_24 : decode prog_14_method_98_code 24 = .ok (.getfield 143, 3) := by decide +kernel
theorem d_Mod_isAsKnown_27 : decode prog_14_method_98_code 27 = .ok (.iload_n 2, 1) := by decide +kernel
theorem d_Mod_isAsKnown_28 : decode prog_14_method_98_code 28 = .ok (.iaload, 1) := by decide +kernel
theorem d_Mod_isAsKnown_29 : decode prog_14_method_98_code 29 = .ok (.if_icmp .eq 5, 3) := by decide +kernel
theorem d_Mod_isAsKnown_32 : decode prog_14_method_98_code 32 = .ok (.iconst 0, 1) := by decide +kernel
theorem d_Mod_isAsKnown_33 : decode prog_14_method_98_code 33 = .ok (.ireturn, 1) := by decide +kernel
theorem d_Mod_isAsKnown_34 : decode prog_14_method_98_code 34 = .ok (.iinc 2 1, 3) := by decide +kernel
theorem d_Mod_isAsKnown_37 : decode prog_14_method_98_code 37 = .ok (.goto (-35), 3) := by decide +kernel
theorem d_Mod_isAsKnown_40 : decode prog_14_method_98_code 40 = .ok (.iconst 1, 1) := by decide +kernel
theorem d_Mod_isAsKnown_41 : decode prog_14_method_98_code 41 = .ok (.ireturn, 1) := by decide +kernel
theorem d_Mod_isWay_0 : decode prog_14_method_99_code 0 = .ok (.aload_n 0, 1) := by decide +kernel
theorem d_Mod_isWay_1 : decode prog_14_method_99_code 1 = .ok (.iload_n 1, 1) := by decide +kernel
theorem d_Mod_isWay_2 : decode prog_14_method_99_code 2 = .ok (.invokevirtual 449, 3) := by decide +kernel
theorem d_Mod_isWay_5 : decode prog_14_method_99_code 5 = .ok (.ifCond .eq 15, 3) := by decide +kernel
theorem d_Mod_isWay_8 : decode prog_14_method_99_code 8 = .ok (.aload_n 0, 1) := by decide +kernel
theorem d_Mod_isWay_9 : decode prog_14_method_99_code 9 = .ok (.iload_n 2, 1) := by decide +kernel
theorem d_Mod_isWay_10 : decode prog_14_method_99_code 10 = .ok (.invokevirtual 452, 3) := by decide +kernel
theorem d_Mod_isWay_13 : decode prog_14_method_99_code 13 = .ok (.ifCond .eq 7, 3) := by decide +kernel
theorem d_Mod_isWay_16 : decode prog_14_method_99_code 16 = .ok (.iconst 1, 1) := by decide +kernel
theorem d_Mod_isWay_17 : decode prog_14_method_99_code 17 = .ok (.goto 4, 3) := by decide +kernel
theorem d_Mod_isWay_20 : decode prog_14_method_99_code 20 = .ok (.iconst 0, 1) := by decide +kernel
theorem d_Mod_isWay_21 : decode prog_14_method_99_code 21 = .ok (.ireturn, 1) := by decide +kernel
theorem d_Mod_blame_0 : decode prog_14_method_100_code 0 = .ok (.iload_n 1, 1) := by decide +kernel
theorem d_Mod_blame_1 : decode prog_14_method_100_code 1 = .ok (.iconst 0, 1) := by decide +kernel
theorem d_Mod_blame_2 : decode prog_14_method_100_code 2 = .ok (.aload_n 0, 1) := by decide +kernel
theorem d_Mod_blame_3 : decode prog_14_method_100_code 3 = .ok (.getfield 257, 3) := by decide +kernel
theorem d_Mod_blame_6 : decode prog_14_method_100_code 6 = .ok (.invokestatic 316, 3) := by decide +kernel
theorem d_Mod_blame_9 : decode prog_14_method_100_code 9 = .ok (.ifCond .ne 5, 3) := by decide +kernel
theorem d_Mod_blame_12 : decode prog_14_method_100_code 12 = .ok (.iconst (-1), 1) := by decide +kernel
theorem d_Mod_blame_13 : decode prog_14_method_100_code 13 = .ok (.ireturn, 1) := by decide +kernel
theorem d_Mod_blame_14 : decode prog_14_method_100_code 14 = .ok (.aload_n 0, 1) := by decide +kernel
theorem d_Mod_blame_15 : decode prog_14_method_100_code 15 = .ok (.invokevirtual 377, 3) := by decide +kernel
theorem d_Mod_blame_18 : decode prog_14_method_100_code 18 = .ok (.iconst 0, 1) := by decide +kernel
theorem d_Mod_blame_19 : decode prog_14_method_100_code 19 = .ok (.istore_n 2, 1) := by decide +kernel
theorem d_Mod_blame_20 : decode prog_14_method_100_code 20 = .ok (.iconst 0, 1) := by decide +kernel
theorem d_Mod_blame_21 : decode prog_14_method_100_code 21 = .ok (.istore_n 3, 1) := by decide +kernel
theorem d_Mod_blame_22 : decode prog_14_method_100_code 22 = .ok (.iload_n 3, 1) := by decide +kernel
theorem d_Mod_blame_23 : decode prog_14_method_100_code 23 = .ok (.bipush 13, 2) := by decide +kernel
theorem d_Mod_blame_25 : decode prog_14_method_100_code 25 = .ok (.aload_n 0, 1) := by decide +kernel
theorem d_Mod_blame_26 : decode prog_14_method_100_code 26 = .ok (.getfield 58, 3) := by decide +kernel
theorem d_Mod_blame_29 : decode prog_14_method_100_code 29 = .ok (.aload_n 0, 1) := by decide +kernel
theorem d_Mod_blame_30 : decode prog_14_method_100_code 30 = .ok (.getfield 236, 3) := by decide +kernel
theorem d_Mod_blame_33 : decode prog_14_method_100_code 33 = .ok (.iaload, 1) := by decide +kernel
theorem d_Mod_blame_34 : decode prog_14_method_100_code 34 = .ok (.imul, 1) := by decide +kernel
theorem d_Mod_blame_35 : decode prog_14_method_100_code 35 = .ok (.if_icmp .ge 21, 3) := by decide +kernel
theorem d_Mod_blame_38 : decode prog_14_method_100_code 38 = .ok (.aload_n 0, 1) := by decide +kernel
theorem d_Mod_blame_39 : decode prog_14_method_100_code 39 = .ok (.iload_n 3, 1) := by decide +kernel
theorem d_Mod_blame_40 : decode prog_14_method_100_code 40 = .ok (.iload_n 1, 1) := by decide +kernel
theorem d_Mod_blame_41 : decode prog_14_method_100_code 41 = .ok (.invokevirtual 455, 3) := by decide +kernel
theorem d_Mod_blame_44 : decode prog_14_method_100_code 44 = .ok (.ifCond .eq 6, 3) := by decide +kernel
theorem d_Mod_blame_47 : decode prog_14_method_100_code 47 = .ok (.iinc 2 1, 3) := by decide +kernel
theorem d_Mod_blame_50 : decode prog_14_method_100_code 50 = .ok (.iinc 3 1, 3) := by decide +kernel
theorem d_Mod_blame_53 : decode prog_14_method_100_code 53 = .ok (.goto (-31), 3) := by decide +kernel
theorem d_Mod_blame_56 : decode prog_14_method_100_code 56 = .ok (.iload_n 2, 1) := by decide +kernel
theorem d_Mod_blame_57 : decode prog_14_method_100_code 57 = .ok (.ireturn, 1) := by decide +kernel
theorem d_Mod_sure_0 : decode prog_14_method_101_code 0 = .ok (.iload_n 1, 1) := by decide +kernel
theorem d_Mod_sure_1 : decode prog_14_method_101_code 1 = .ok (.iconst 0, 1) := by decide +kernel
theorem d_Mod_sure_2 : decode prog_14_method_101_code 2 = .ok (.aload_n 0, 1) := by decide +kernel
theorem d_Mod_sure_3 : decode prog_14_method_101_code 3 = .ok (.getfield 257, 3) := by decide +kernel
theorem d_Mod_sure_6 : decode prog_14_method_101_code 6 = .ok (.invokestatic 316, 3) := by decide +kernel
theorem d_Mod_sure_9 : decode prog_14_method_101_code 9 = .ok (.ifCond .ne 5, 3) := by decide +kernel
theorem d_Mod_sure_12 : decode prog_14_method_101_code 12 = .ok (.iconst (-1), 1) := by decide +kernel
theorem d_Mod_sure_13 : decode prog_14_method_101_code 13 = .ok (.ireturn, 1) := by decide +kernel
theorem d_Mod_sure_14 : decode prog_14_method_101_code 14 = .ok (.aload_n 0, 1) := by decide +kernel
theorem d_Mod_sure_15 : decode prog_14_method_101_code 15 = .ok (.invokevirtual 377, 3) := by decide +kernel
theorem d_Mod_sure_18 : decode prog_14_method_101_code 18 = .ok (.iconst (-1), 1) := by decide +kernel
theorem d_Mod_sure_19 : decode prog_14_method_101_code 19 = .ok (.istore_n 2, 1) := by decide +kernel
theorem d_Mod_sure_20 : decode prog_14_method_101_code 20 = .ok (.iconst 0, 1) := by decide +kernel
theorem d_Mod_sure_21 : decode prog_14_method_101_code 21 = .ok (.istore_n 3, 1) := by decide +kernel
theorem d_Mod_sure_22 : decode prog_14_method_101_code 22 = .ok (.iload_n 3, 1) := by decide +kernel
theorem d_Mod_sure_23 : decode prog_14_method_101_code 23 = .ok (.bipush 13, 2) := by decide +kernel
theorem d_Mod_sure_25 : decode prog_14_method_101_code 25 = .ok (.aload_n 0, 1) := by decide +kernel
theorem d_Mod_sure_26 : decode prog_14_method_101_code 26 = .ok (.getfield 58, 3) := by decide +kernel
theorem d_Mod_sure_29 : decode prog_14_method_101_code 29 = .ok (.aload_n 0, 1) := by decide +kernel
theorem d_Mod_sure_30 : decode prog_14_method_101_code 30 = .ok (.getfield 236, 3) := by decide +kernel
theorem d_Mod_sure_33 : decode prog_14_method_101_code 33 = .ok (.iaload, 1) := by decide +kernel
theorem d_Mod_sure_34 : decode prog_14_method_101_code 34 = .ok (.imul, 1) := by decide +kernel
theorem d_Mod_sure_35 : decode prog_14_method_101_code 35 = .ok (.if_icmp .ge 41, 3) := by decide +kernel
theorem d_Mod_sure_38 : decode prog_14_method_101_code 38 = .ok (.aload_n 0, 1) := by decide +kernel
theorem d_Mod_sure_39 : decode prog_14_method_101_code 39 = .ok (.iload_n 3, 1) := by decide +kernel
theorem d_Mod_sure_40 : decode prog_14_method_101_code 40 = .ok (.iload_n 1, 1) := by decide +kernel
theorem d_Mod_sure_41 : decode prog_14_method_101_code 41 = .ok (.invokevirtual 455, 3) := by decide +kernel
theorem d_Mod_sure_44 : decode prog_14_method_101_code 44 = .ok (.ifCond .ne 6, 3) := by decide +kernel
theorem d_Mod_sure_47 : decode prog_14_method_101_code 47 = .ok (.goto 23, 3) := by decide +kernel
theorem d_Mod_sure_50 : decode prog_14_method_101_code 50 = .ok (.iload_n 2, 1) := by decide +kernel
theorem d_Mod_sure_51 : decode prog_14_method_101_code 51 = .ok (.ifCond .lt 14, 3) := by decide +kernel
theorem d_Mod_sure_54 : decode prog_14_method_101_code 54 = .ok (.iload_n 2, 1) := by decide +kernel
theorem d_Mod_sure_55 : decode prog_14_method_101_code 55 = .ok (.iload_n 3, 1) := by decide +kernel
theorem d_Mod_sure_56 : decode prog_14_method_101_code 56 = .ok (.bipush 13, 2) := by decide +kernel
theorem d_Mod_sure_58 : decode prog_14_method_101_code 58 = .ok (.idiv, 1) := by decide +kernel
theorem d_Mod_sure_59 : decode prog_14_method_101_code 59 = .ok (.if_icmp .eq 6, 3) := by decide +kernel
theorem d_Mod_sure_62 : decode prog_14_method_101_code 62 = .ok (.bipush (-2), 2) := by decide +kernel
theorem d_Mod_sure_64 : decode prog_14_method_101_code 64 = .ok (.ireturn, 1) := by decide +kernel
theorem d_Mod_sure_65 : decode prog_14_method_101_code 65 = .ok (.iload_n 3, 1) := by decide +kernel
theorem d_Mod_sure_66 : decode prog_14_method_101_code 66 = .ok (.bipush 13, 2) := by decide +kernel
theorem d_Mod_sure_68 : decode prog_14_method_101_code 68 = .ok (.idiv, 1) := by decide +kernel
theorem d_Mod_sure_69 : decode prog_14_method_101_code 69 = .ok (.istore_n 2, 1) := by decide +kernel
theorem d_Mod_sure_70 : decode prog_14_method_101_code 70 = .ok (.iinc 3 1, 3) := by decide +kernel
theorem d_Mod_sure_73 : decode prog_14_method_101_code 73 = .ok (.goto (-51), 3) := by decide +kernel
theorem d_Mod_sure_76 : decode prog_14_method_101_code 76 = .ok (.iload_n 2, 1) := by decide +kernel
theorem d_Mod_sure_77 : decode prog_14_method_101_code 77 = .ok (.ifCond .ge 8, 3) := by decide +kernel
theorem d_Mod_sure_80 : decode prog_14_method_101_code 80 = .ok (.bipush (-2), 2) := by decide +kernel
theorem d_Mod_sure_82 : decode prog_14_method_101_code 82 = .ok (.goto 4, 3) := by decide +kernel
theorem d_Mod_sure_85 : decode prog_14_method_101_code 85 = .ok (.iload_n 2, 1) := by decide +kernel
theorem d_Mod_sure_86 : decode prog_14_method_101_code 86 = .ok (.ireturn, 1) := by decide +kernel
theorem d_Mod_taste_0 : decode prog_14_method_102_code 0 = .ok (.iload_n 1, 1) := by decide +kernel
theorem d_Mod_taste_1 : decode prog_14_method_102_code 1 = .ok (.iconst 0, 1) := by decide +kernel
theorem d_Mod_taste_2 : decode prog_14_method_102_code 2 = .ok (.aload_n 0, 1) := by decide +kernel
theorem d_Mod_taste_3 : decode prog_14_method_102_code 3 = .ok (.getfield 257, 3) := by decide +kernel
theorem d_Mod_taste_6 : decode prog_14_method_102_code 6 = .ok (.invokestatic 316, 3) := by decide +kernel
theorem d_Mod_taste_9 : decode prog_14_method_102_code 9 = .ok (.ifCond .ne 5, 3) := by decide +kernel
theorem d_Mod_taste_12 : decode prog_14_method_102_code 12 = .ok (.iconst (-1), 1) := by decide +kernel
theorem d_Mod_taste_13 : decode prog_14_method_102_code 13 = .ok (.ireturn, 1) := by decide +kernel
theorem d_Mod_taste_14 : decode prog_14_method_102_code 14 = .ok (.aload_n 0, 1) := by decide +kernel
theorem d_Mod_taste_15 : decode prog_14_method_102_code 15 = .ok (.invokevirtual 377, 3) := by decide +kernel
theorem d_Mod_taste_18 : decode prog_14_method_102_code 18 = .ok (.iconst 0, 1) := by decide +kernel
theorem d_Mod_taste_19 : decode prog_14_method_102_code 19 = .ok (.istore_n 2, 1) := by decide +kernel
theorem d_Mod_taste_20 : decode prog_14_method_102_code 20 = .ok (.iload_n 2, 1) := by decide +kernel
theorem d_Mod_taste_21 : decode prog_14_method_102_code 21 = .ok (.sipush 3000, 3) := by decide +kernel
theorem d_Mod_taste_24 : decode prog_14_method_102_code 24 = .ok (.if_icmp .ge 16, 3) := by decide +kernel
theorem d_Mod_taste_27 : decode prog_14_method_102_code 27 = .ok (.aload_n 0, 1) := by decide +kernel
theorem d_Mod_taste_28 : decode prog_14_method_102_code 28 = .ok (.getfield 146, 3) := by decide +kernel
theorem d_Mod_taste_31 : decode prog_14_method_102_code 31 = .ok (.iload_n 2, 1) := by decide +kernel
theorem d_Mod_taste_32 : decode prog_14_method_102_code 32 = .ok (.iconst 0, 1) := by decide +kernel
theorem d_Mod_taste_33 : decode prog_14_method_102_code 33 = .ok (.iastore, 1) := by decide +kernel
theorem d_Mod_taste_34 : decode prog_14_method_102_code 34 = .ok (.iinc 2 1, 3) := by decide +kernel
theorem d_Mod_taste_37 : decode prog_14_method_102_code 37 = .ok (.goto (-17), 3) := by decide +kernel
theorem d_Mod_taste_40 : decode prog_14_method_102_code 40 = .ok (.iconst 0, 1) := by decide +kernel
theorem d_Mod_taste_41 : decode prog_14_method_102_code 41 = .ok (.istore_n 2, 1) := by decide +kernel
theorem d_Mod_taste_42 : decode prog_14_method_102_code 42 = .ok (.iconst 0, 1) := by decide +kernel
theorem d_Mod_taste_43 : decode prog_14_method_102_code 43 = .ok (.istore_n 3, 1) := by decide +kernel
theorem d_Mod_taste_44 : decode prog_14_method_102_code 44 = .ok (.iload_n 3, 1) := by decide +kernel
theorem d_Mod_taste_45 : decode prog_14_method_102_code 45 = .ok (.bipush 13, 2) := by decide +kernel
theorem d_Mod_taste_47 : decode prog_14_method_102_code 47 = .ok (.aload_n 0, 1) := by decide +kernel
theorem d_Mod_taste_48 : decode prog_14_method_102_code 48 = .ok (.getfield 58, 3) := by decide +kernel
theorem d_Mod_taste_51 : decode prog_14_method_102_code 51 = .ok (.aload_n 0, 1) := by decide +kernel
theorem d_Mod_taste_52 : decode prog_14_method_102_code 52 = .ok (.getfield 236, 3) := by decide +kernel
theorem d_Mod_taste_55 : decode prog_14_method_102_code 55 = .ok (.iaload, 1) := by decide +kernel
theorem d_Mod_taste_56 : decode prog_14_method_102_code 56 = .ok (.imul, 1) := by decide +kernel
theorem d_Mod_taste_57 : decode prog_14_method_102_code 57 = .ok (.if_icmp .ge 69, 3) := by decide +kernel
theorem d_Mod_taste_60 : decode prog_14_method_102_code 60 = .ok (.aload_n 0, 1) := by decide +kernel
theorem d_Mod_taste_61 : decode prog_14_method_102_code 61 = .ok (.iload_n 3, 1) := by decide +kernel
theorem d_Mod_taste_62 : decode prog_14_method_102_code 62 = .ok (.iload_n 1, 1) := by decide +kernel
theorem d_Mod_taste_63 : decode prog_14_method_102_code 63 = .ok (.invokevirtual 455, 3) := by decide +kernel
theorem d_Mod_taste_66 : decode prog_14_method_102_code 66 = .ok (.ifCond .ne 6, 3) := by decide +kernel
theorem d_Mod_taste_69 : decode prog_14_method_102_code 69 = .ok (.goto 51, 3) := by decide +kernel
theorem d_Mod_taste_72 : decode prog_14_method_102_code 72 = .ok (.iinc 2 1, 3) := by decide +kernel
theorem d_Mod_taste_75 : decode prog_14_method_102_code 75 = .ok (.iconst 0, 1) := by decide +kernel
theorem d_Mod_taste_76 : decode prog_14_method_102_code 76 = .ok (.istore 4, 2) := by decide +kernel
theorem d_Mod_taste_78 : decode prog_14_method_102_code 78 = .ok (.iload 4, 2) := by decide +kernel
theorem d_Mod_taste_80 : decode prog_14_method_102_code 80 = .ok (.bipush 30, 2) := by decide +kernel
theorem d_Mod_taste_82 : decode prog_14_method_102_code 82 = .ok (.if_icmp .ge 38, 3) := by decide +kernel
theorem d_Mod_taste_85 : decode prog_14_method_102_code 85 = .ok (.aload_n 0, 1) := by decide +kernel
theorem d_Mod_taste_86 : decode prog_14_method_102_code 86 = .ok (.getfield 146, 3) := by decide +kernel
theorem d_Mod_taste_89 : decode prog_14_method_102_code 89 = .ok (.bipush 100, 2) := by decide +kernel
theorem d_Mod_taste_91 : decode prog_14_method_102_code 91 = .ok (.iload 4, 2) := by decide +kernel
theorem d_Mod_taste_93 : decode prog_14_method_102_code 93 = .ok (.imul, 1) := by decide +kernel
theorem d_Mod_taste_94 : decode prog_14_method_102_code 94 = .ok (.aload_n 0, 1) := by decide +kernel
theorem d_Mod_taste_95 : decode prog_14_method_102_code 95 = .ok (.iload 4, 2) := by decide +kernel
theorem d_Mod_taste_97 : decode prog_14_method_102_code 97 = .ok (.bipush 10, 2) := by decide +kernel
theorem d_Mod_taste_99 : decode prog_14_method_102_code 99 = .ok (.idiv, 1) := by decide +kernel
theorem d_Mod_taste_100 : decode prog_14_method_102_code 100 = .ok (.iload 4, 2) := by decide +kernel
theorem d_Mod_taste_102 : decode prog_14_method_102_code 102 = .ok (.bipush 10, 2) := by decide +kernel
theorem d_Mod_taste_104 : decode prog_14_method_102_code 104 = .ok (.irem, 1) := by decide +kernel
theorem d_Mod_taste_105 : decode prog_14_method_102_code 105 = .ok (.invokevirtual 359, 3) := by decide +kernel
theorem d_Mod_taste_108 : decode prog_14_method_102_code 108 = .ok (.iadd, 1) := by decide +kernel
theorem d_Mod_taste_109 : decode prog_14_method_102_code 109 = .ok (.dup2, 1) := by decide +kernel
theorem d_Mod_taste_110 : decode prog_14_method_102_code 110 = .ok (.iaload, 1) := by decide +kernel
theorem d_Mod_taste_111 : decode prog_14_method_102_code 111 = .ok (.iconst 1, 1) := by decide +kernel
theorem d_Mod_taste_112 : decode prog_14_method_102_code 112 = .ok (.iadd, 1) := by decide +kernel
theorem d_Mod_taste_113 : decode prog_14_method_102_code 113 = .ok (.iastore, 1) := by decide +kernel
theorem d_Mod_taste_114 : decode prog_14_method_102_code 114 = .ok (.iinc 4 1, 3) := by decide +kernel
theorem d_Mod_taste_117 : decode prog_14_method_102_code 117 = .ok (.goto (-39), 3) := by decide +kernel
theorem d_Mod_taste_120 : decode prog_14_method_102_code 120 = .ok (.iinc 3 1, 3) := by decide +kernel
theorem d_Mod_taste_123 : decode prog_14_method_102_code 123 = .ok (.goto (-79), 3) := by decide +kernel
theorem d_Mod_taste_126 : decode prog_14_method_102_code 126 = .ok (.iload_n 2, 1) := by decide +kernel
theorem d_Mod_taste_127 : decode prog_14_method_102_code 127 = .ok (.ifCond .ne 6, 3) := by decide +kernel
theorem d_Mod_taste_130 : decode prog_14_method_102_code 130 = .ok (.bipush (-2), 2) := by decide +kernel
theorem d_Mod_taste_132 : decode prog_14_method_102_code 132 = .ok (.ireturn, 1) := by decide +kernel
theorem d_Mod_taste_133 : decode prog_14_method_102_code 133 = .ok (.bipush (-2), 2) := by decide +kernel
theorem d_Mod_taste_135 : decode prog_14_method_102_code 135 = .ok (.istore_n 3, 1) := by decide +kernel
theorem d_Mod_taste_136 : decode prog_14_method_102_code 136 = .ok (.iconst 0, 1) := by decide +kernel
theorem d_Mod_taste_137 : decode prog_14_method_102_code 137 = .ok (.istore 4, 2) := by decide +kernel
theorem d_Mod_taste_139 : decode prog_14_method_102_code 139 = .ok (.iconst 0, 1) := by decide +kernel
theorem d_Mod_taste_140 : decode prog_14_method_102_code 140 = .ok (.istore 5, 2) := by decide +kernel
theorem d_Mod_taste_142 : decode prog_14_method_102_code 142 = .ok (.iload 5, 2) := by decide +kernel
theorem d_Mod_taste_144 : decode prog_14_method_102_code 144 = .ok (.bipush 30, 2) := by decide +kernel
theorem d_Mod_taste_146 : decode prog_14_method_102_code 146 = .ok (.if_icmp .ge 82, 3) := by decide +kernel
theorem d_Mod_taste_149 : decode prog_14_method_102_code 149 = .ok (.iconst 0, 1) := by decide +kernel
theorem d_Mod_taste_150 : decode prog_14_method_102_code 150 = .ok (.istore 6, 2) := by decide +kernel
theorem d_Mod_taste_152 : decode prog_14_method_102_code 152 = .ok (.iconst 0, 1) := by decide +kernel
theorem d_Mod_taste_153 : decode prog_14_method_102_code 153 = .ok (.istore 7, 2) := by decide +kernel
theorem d_Mod_taste_155 : decode prog_14_method_102_code 155 = .ok (.iload 7, 2) := by decide +kernel
theorem d_Mod_taste_157 : decode prog_14_method_102_code 157 = .ok (.bipush 100, 2) := by decide +kernel
theorem d_Mod_taste_159 : decode prog_14_method_102_code 159 = .ok (.if_icmp .ge 42, 3) := by decide +kernel
theorem d_Mod_taste_162 : decode prog_14_method_102_code 162 = .ok (.aload_n 0, 1) := by decide +kernel
theorem d_Mod_taste_163 : decode prog_14_method_102_code 163 = .ok (.getfield 146, 3) := by decide +kernel
theorem d_Mod_taste_166 : decode prog_14_method_102_code 166 = .ok (.bipush 100, 2) := by decide +kernel
theorem d_Mod_taste_168 : decode prog_14_method_102_code 168 = .ok (.iload 5, 2) := by decide +kernel
theorem d_Mod_taste_170 : decode prog_14_method_102_code 170 = .ok (.imul, 1) := by decide +kernel
theorem d_Mod_taste_171 : decode prog_14_method_102_code 171 = .ok (.iload 7, 2) := by decide +kernel
theorem d_Mod_taste_173 : decode prog_14_method_102_code 173 = .ok (.iadd, 1) := by decide +kernel
theorem d_Mod_taste_174 : decode prog_14_method_102_code 174 = .ok (.iaload, 1) := by decide +kernel
theorem d_Mod_taste_175 : decode prog_14_method_102_code 175 = .ok (.iload 6, 2) := by decide +kernel
theorem d_Mod_taste_177 : decode prog_14_method_102_code 177 = .ok (.if_icmp .le 18, 3) := by decide +kernel
theorem d_Mod_taste_180 : decode prog_14_method_102_code 180 = .ok (.aload_n 0, 1) := by decide +kernel
theorem d_Mod_taste_181 : decode prog_14_method_102_code 181 = .ok (.getfield 146, 3) := by decide +kernel
theorem d_Mod_taste_184 : decode prog_14_method_102_code 184 = .ok (.bipush 100, 2) := by decide +kernel
theorem d_Mod_taste_186 : decode prog_14_method_102_code 186 = .ok (.iload 5, 2) := by decide +kernel
theorem d_Mod_taste_188 : decode prog_14_method_102_code 188 = .ok (.imul, 1) := by decide +kernel
theorem d_Mod_taste_189 : decode prog_14_method_102_code 189 = .ok (.iload 7, 2) := by decide +kernel
theorem d_Mod_taste_191 : decode prog_14_method_102_code 191 = .ok (.iadd, 1) := by decide +kernel
theorem d_Mod_taste_192 : decode prog_14_method_102_code 192 = .ok (.iaload, 1) := by decide +kernel
theorem d_Mod_taste_193 : decode prog_14_method_102_code 193 = .ok (.istore 6, 2) := by decide +kernel
theorem d_Mod_taste_195 : decode prog_14_method_102_code 195 = .ok (.iinc 7 1, 3) := by decide +kernel
theorem d_Mod_taste_198 : decode prog_14_method_102_code 198 = .ok (.goto (-43), 3) := by decide +kernel
theorem d_Mod_taste_201 : decode prog_14_method_102_code 201 = .ok (.iload_n 3, 1) := by decide +kernel
theorem d_Mod_taste_202 : decode prog_14_method_102_code 202 = .ok (.ifCond .lt 13, 3) := by decide +kernel
theorem d_Mod_taste_205 : decode prog_14_method_102_code 205 = .ok (.iload 6, 2) := by decide +kernel
theorem d_Mod_taste_207 : decode prog_14_method_102_code 207 = .ok (.iload 4, 2) := by decide +kernel
theorem d_Mod_taste_209 : decode prog_14_method_102_code 209 = .ok (.if_icmp .lt 6, 3) := by decide +kernel
theorem d_Mod_taste_212 : decode prog_14_method_102_code 212 = .ok (.goto 10, 3) := by decide +kernel
theorem d_Mod_taste_215 : decode prog_14_method_102_code 215 = .ok (.iload 5, 2) := by decide +kernel
theorem d_Mod_taste_217 : decode prog_14_method_102_code 217 = .ok (.istore_n 3, 1) := by decide +kernel
theorem d_Mod_taste_218 : decode prog_14_method_102_code 218 = .ok (.iload 6, 2) := by decide +kernel
theorem d_Mod_taste_220 : decode prog_14_method_102_code 220 = .ok (.istore 4, 2) := by decide +kernel
theorem d_Mod_taste_222 : decode prog_14_method_102_code 222 = .ok (.iinc 5 1, 3) := by decide +kernel
theorem d_Mod_taste_225 : decode prog_14_method_102_code 225 = .ok (.goto (-83), 3) := by decide +kernel
theorem d_Mod_taste_228 : decode prog_14_method_102_code 228 = .ok (.iload_n 3, 1) := by decide +kernel
theorem d_Mod_taste_229 : decode prog_14_method_102_code 229 = .ok (.ireturn, 1) := by decide +kernel
theorem d_Mod_hold_0 : decode prog_14_method_103_code 0 = .ok (.iload_n 1, 1) := by decide +kernel
theorem d_Mod_hold_1 : decode prog_14_method_103_code 1 = .ok (.iconst 0, 1) := by decide +kernel
theorem d_Mod_hold_2 : decode prog_14_method_103_code 2 = .ok (.iconst 2, 1) := by decide +kernel
theorem d_Mod_hold_3 : decode prog_14_method_103_code 3 = .ok (.invokestatic 316, 3) := by decide +kernel
theorem d_Mod_hold_6 : decode prog_14_method_103_code 6 = .ok (.ifCond .ne 5, 3) := by decide +kernel
theorem d_Mod_hold_9 : decode prog_14_method_103_code 9 = .ok (.iconst 0, 1) := by decide +kernel
theorem d_Mod_hold_10 : decode prog_14_method_103_code 10 = .ok (.ireturn, 1) := by decide +kernel
theorem d_Mod_hold_11 : decode prog_14_method_103_code 11 = .ok (.aload_n 0, 1) := by decide +kernel
theorem d_Mod_hold_12 : decode prog_14_method_103_code 12 = .ok (.getfield 149, 3) := by decide +kernel
theorem d_Mod_hold_15 : decode prog_14_method_103_code 15 = .ok (.iload_n 1, 1) := by decide +kernel
theorem d_Mod_hold_16 : decode prog_14_method_103_code 16 = .ok (.iconst 1, 1) := by decide +kernel
theorem d_Mod_hold_17 : decode prog_14_method_103_code 17 = .ok (.bastore, 1) := by decide +kernel
theorem d_Mod_hold_18 : decode prog_14_method_103_code 18 = .ok (.iconst 0, 1) := by decide +kernel
theorem d_Mod_hold_19 : decode prog_14_method_103_code 19 = .ok (.istore_n 2, 1) := by decide +kernel
theorem d_Mod_hold_20 : decode prog_14_method_103_code 20 = .ok (.iload_n 2, 1) := by decide +kernel
theorem d_Mod_hold_21 : decode prog_14_method_103_code 21 = .ok (.bipush 38, 2) := by decide +kernel
theorem d_Mod_hold_23 : decode prog_14_method_103_code 23 = .ok (.if_icmp .ge 26, 3) := by decide +kernel
theorem d_Mod_hold_26 : decode prog_14_method_103_code 26 = .ok (.aload_n 0, 1) := by decide +kernel
theorem d_Mod_hold_27 : decode prog_14_method_103_code 27 = .ok (.getfield 152, 3) := by decide +kernel
theorem d_Mod_hold_30 : decode prog_14_method_103_code 30 = .ok (.bipush 38, 2) := by decide +kernel
theorem d_Mod_hold_32 : decode prog_14_method_103_code 32 = .ok (.iload_n 1, 1) := by decide +kernel
theorem d_Mod_hold_33 : decode prog_14_method_103_code 33 = .ok (.imul, 1) := by decide +kernel
theorem d_Mod_hold_34 : decode prog_14_method_103_code 34 = .ok (.iload_n 2, 1) := by decide +kernel
theorem d_Mod_hold_35 : decode prog_14_method_103_code 35 = .ok (.iadd, 1) := by decide +kernel
theorem d_Mod_hold_36 : decode prog_14_method_103_code 36 = .ok (.aload_n 0, 1) := by decide +kernel
theorem d_Mod_hold_37 : decode prog_14_method_103_code 37 = .ok (.getfield 122, 3) := by decide +kernel
theorem d_Mod_hold_40 : decode prog_14_method_103_code 40 = .ok (.iload_n 2, 1) := by decide +kernel
theorem d_Mod_hold_41 : decode prog_14_method_103_code 41 = .ok (.iaload, 1) := by decide +kernel
theorem d_Mod_hold_42 : decode prog_14_method_103_code 42 = .ok (.iastore, 1) := by decide +kernel
theorem d_Mod_hold_43 : decode prog_14_method_103_code 43 = .ok (.iinc 2 1, 3) := by decide +kernel
theorem d_Mod_hold_46 : decode prog_14_method_103_code 46 = .ok (.goto (-26), 3) := by decide +kernel
theorem d_Mod_hold_49 : decode prog_14_method_103_code 49 = .ok (.iconst 1, 1) := by decide +kernel
theorem d_Mod_hold_50 : decode prog_14_method_103_code 50 = .ok (.ireturn, 1) := by decide +kernel
theorem d_Mod_restore_0 : decode prog_14_method_104_code 0 = .ok (.iload_n 1, 1) := by decide +kernel
theorem d_Mod_restore_1 : decode prog_14_method_104_code 1 = .ok (.iconst 0, 1) := by decide +kernel
theorem d_Mod_restore_2 : decode prog_14_method_104_code 2 = .ok (.iconst 2, 1) := by decide +kernel
theorem d_Mod_restore_3 : decode prog_14_method_104_code 3 = .ok (.invokestatic 316, 3) := by decide +kernel
theorem d_Mod_restore_6 : decode prog_14_method_104_code 6 = .ok (.ifCond .eq 12, 3) := by decide +kernel
theorem d_Mod_restore_9 : decode prog_14_method_104_code 9 = .ok (.aload_n 0, 1) := by decide +kernel
theorem d_Mod_restore_10 : decode prog_14_method_104_code 10 = .ok (.getfield 149, 3) := by decide +kernel
theorem d_Mod_restore_13 : decode prog_14_method_104_code 13 = .ok (.iload_n 1, 1) := by decide +kernel
theorem d_Mod_restore_14 : decode prog_14_method_104_code 14 = .ok (.baload, 1) := by decide +kernel
theorem d_Mod_restore_15 : decode prog_14_method_104_code 15 = .ok (.ifCond .ne 5, 3) := by decide +kernel
theorem d_Mod_restore_18 : decode prog_14_method_104_code 18 = .ok (.iconst 0, 1) := by decide +kernel
theorem d_Mod_restore_19 : decode prog_14_method_104_code 19 = .ok (.ireturn, 1) := by decide +kernel
theorem d_Mod_restore_20 : decode prog_14_method_104_code 20 = .ok (.iconst 0, 1) := by decide +kernel
theorem d_Mod_restore_21 : decode prog_14_method_104_code 21 = .ok (.istore_n 2, 1) := by decide +kernel
theorem d_Mod_restore_22 : decode prog_14_method_104_code 22 = .ok (.iload_n 2, 1) := by decide +kernel
theorem d_Mod_restore_23 : decode prog_14_method_104_code 23 = .ok (.bipush 38, 2) := by decide +kernel
theorem d_Mod_restore_25 : decode prog_14_method_104_code 25 = .ok (.if_icmp .ge 26, 3) := by decide +kernel
theorem d_Mod_restore_28 : decode prog_14_method_104_code 28 = .ok (.aload_n 0, 1) := by decide +kernel
theorem d_Mod_restore_29 : decode prog_14_method_104_code 29 = .ok (.getfield 122, 3) := by decide +kernel
theorem d_Mod_restore_32 : decode prog_14_method_104_code 32 = .ok (.iload_n 2, 1) := by decide +kernel
theorem d_Mod_restore_33 : decode prog_14_method_104_code 33 = .ok (.aload_n 0, 1) := by decide +kernel
theorem d_Mod_restore_34 : decode prog_14_method_104_code 34 = .ok (.getfield 152, 3) := by decide +kernel
theorem d_Mod_restore_37 : decode prog_14_method_104_code 37 = .ok (.bipush 38, 2) := by decide +kernel
theorem d_Mod_restore_39 : decode prog_14_method_104_code 39 = .ok (.iload_n 1, 1) := by decide +kernel
theorem d_Mod_restore_40 : decode prog_14_method_104_code 40 = .ok (.imul, 1) := by decide +kernel
theorem d_Mod_restore_41 : decode prog_14_method_104_code 41 = .ok (.iload_n 2, 1) := by decide +kernel
theorem d_Mod_restore_42 : decode prog_14_method_104_code 42 = .ok (.iadd, 1) := by decide +kernel
theorem d_Mod_restore_43 : decode prog_14_method_104_code 43 = .ok (.iaload, 1) := by decide +kernel
theorem d_Mod_restore_44 : decode prog_14_method_104_code 44 = .ok (.iastore, 1) := by decide +kernel
theorem d_Mod_restore_45 : decode prog_14_method_104_code 45 = .ok (.iinc 2 1, 3) := by decide +kernel
theorem d_Mod_restore_48 : decode prog_14_method_104_code 48 = .ok (.goto (-26), 3) := by decide +kernel
theorem d_Mod_restore_51 : decode prog_14_method_104_code 51 = .ok (.aload_n 0, 1) := by decide +kernel
theorem d_Mod_restore_52 : decode prog_14_method_104_code 52 = .ok (.iconst 0, 1) := by decide +kernel
theorem d_Mod_restore_53 : decode prog_14_method_104_code 53 = .ok (.putfield 254, 3) := by decide +kernel
theorem d_Mod_restore_56 : decode prog_14_method_104_code 56 = .ok (.iconst 1, 1) := by decide +kernel
theorem d_Mod_restore_57 : decode prog_14_method_104_code 57 = .ok (.ireturn, 1) := by decide +kernel
theorem d_Mod_count_0 : decode prog_14_method_105_code 0 = .ok (.iload_n 1, 1) := by decide +kernel
theorem d_Mod_count_1 : decode prog_14_method_105_code 1 = .ok (.tableswitch 246 0 15 #[79, 89, 99, 109, 119, 119, 129, 137, 137, 137, 146, 151, 156, 161, 206, 214], 79) := by decide +kernel
theorem d_Mod_count_80 : decode prog_14_method_105_code 80 = .ok (.aload_n 0, 1) := by decide +kernel
theorem d_Mod_count_81 : decode prog_14_method_105_code 81 = .ok (.getfield 46, 3) := by decide +kernel
theorem d_Mod_count_84 : decode prog_14_method_105_code 84 = .ok (.aload_n 0, 1) := by decide +kernel
theorem d_Mod_count_85 : decode prog_14_method_105_code 85 = .ok (.getfield 236, 3) := by decide +kernel
theorem d_Mod_count_88 : decode prog_14_method_105_code 88 = .ok (.iaload, 1) := by decide +kernel
theorem d_Mod_count_89 : decode prog_14_method_105_code 89 = .ok (.ireturn, 1) := by decide +kernel
theorem d_Mod_count_90 : decode prog_14_method_105_code 90 = .ok (.aload_n 0, 1) := by decide +kernel
theorem d_Mod_count_91 : decode prog_14_method_105_code 91 = .ok (.getfield 58, 3) := by decide +kernel
theorem d_Mod_count_94 : decode prog_14_method_105_code 94 = .ok (.aload_n 0, 1) := by decide +kernel
theorem d_Mod_count_95 : decode prog_14_method_105_code 95 = .ok (.getfield 236, 3) := by decide +kernel
theorem d_Mod_count_98 : decode prog_14_method_105_code 98 = .ok (.iaload, 1) := by decide +kernel
theorem d_Mod_count_99 : decode prog_14_method_105_code 99 = .ok (.ireturn, 1) := by decide +kernel
theorem d_Mod_count_100 : decode prog_14_method_105_code 100 = .ok (.aload_n 0, 1) := by decide +kernel
theorem d_Mod_count_101 : decode prog_14_method_105_code 101 = .ok (.getfield 67, 3) := by decide +kernel
theorem d_Mod_count_104 : decode prog_14_method_105_code 104 = .ok (.aload_n 0, 1) := by decide +kernel
theorem d_Mod_count_105 : decode prog_14_method_105_code 105 = .ok (.getfield 236, 3) := by decide +kernel
theorem d_Mod_count_108 : decode prog_14_method_105_code 108 = .ok (.iaload, 1) := by decide +kernel
theorem d_Mod_count_109 : decode prog_14_method_105_code 109 = .ok (.ireturn, 1) := by decide +kernel
theorem d_Mod_count_110 : decode prog_14_method_105_code 110 = .ok (.aload_n 0, 1) := by decide +kernel
theorem d_Mod_count_111 : decode prog_14_method_105_code 111 = .ok (.getfield 73, 3) := by decide +kernel
theorem d_Mod_count_114 : decode prog_14_method_105_code 114 = .ok (.aload_n 0, 1) := by decide +kernel
theorem d_Mod_count_115 : decode prog_14_method_105_code 115 = .ok (.getfield 236, 3) := by decide +kernel
theorem d_Mod_count_118 : decode prog_14_method_105_code 118 = .ok (.iaload, 1) := by decide +kernel
theorem d_Mod_count_119 : decode prog_14_method_105_code 119 = .ok (.ireturn, 1) := by decide +kernel
theorem d_Mod_count_120 : decode prog_14_method_105_code 120 = .ok (.aload_n 0, 1) := by decide +kernel
theorem d_Mod_count_121 : decode prog_14_method_105_code 121 = .ok (.getfield 122, 3) := by decide +kernel
theorem d_Mod_count_124 : decode prog_14_method_105_code 124 = .ok (.bipush 31, 2) := by decide +kernel
theorem d_Mod_count_126 : decode prog_14_method_105_code 126 = .ok (.iload_n 1, 1) := by decide +kernel
theorem d_Mod_count_127 : decode prog_14_method_105_code 127 = .ok (.iadd, 1) := by decide +kernel
theorem d_Mod_count_128 : decode prog_14_method_105_code 128 = .ok (.iaload, 1) := by decide +kernel
theorem d_Mod_count_129 : decode prog_14_method_105_code 129 = .ok (.ireturn, 1) := by decide +kernel
theorem d_Mod_count_130 : decode prog_14_method_105_code 130 = .ok (.aload_n 0, 1) := by decide +kernel
theorem d_Mod_count_131 : decode prog_14_method_105_code 131 = .ok (.getfield 122, 3) := by decide +kernel
theorem d_Mod_count_134 : decode prog_14_method_105_code 134 = .ok (.bipush 11, 2) := by decide +kernel
theorem d_Mod_count_136 : decode prog_14_method_105_code 136 = .ok (.iaload, 1) := by decide +kernel
theorem d_Mod_count_137 : decode prog_14_method_105_code 137 = .ok (.ireturn, 1) := by decide +kernel
theorem d_Mod_count_138 : decode prog_14_method_105_code 138 = .ok (.aload_n 0, 1) := by decide +kernel
theorem d_Mod_count_139 : decode prog_14_method_105_code 139 = .ok (.getfield 122, 3) := by decide +kernel
theorem d_Mod_count_142 : decode prog_14_method_105_code 142 = .ok (.iconst 5, 1) := by decide +kernel
theorem d_Mod_count_143 : decode prog_14_method_105_code 143 = .ok (.iload_n 1, 1) := by decide +kernel
theorem d_Mod_count_144 : decode prog_14_method_105_code 144 = .ok (.iadd, 1) := by decide +kernel
theorem d_Mod_count_145 : decode prog_14_method_105_code 145 = .ok (.iaload, 1) := by decide +kernel
theorem d_Mod_count_146 : decode prog_14_method_105_code 146 = .ok (.ireturn, 1) := by decide +kernel
theorem d_Mod_count_147 : decode prog_14_method_105_code 147 = .ok (.aload_n 0, 1) := by decide +kernel
theorem d_Mod_count_148 : decode prog_14_method_105_code 148 = .ok (.getfield 169, 3) := by decide +kernel
theorem d_Mod_count_151 : decode prog_14_method_105_code 151 = .ok (.ireturn, 1) := by decide +kernel
theorem d_Mod_count_152 : decode prog_14_method_105_code 152 = .ok (.aload_n 0, 1) := by decide +kernel
theorem d_Mod_count_153 : decode prog_14_method_105_code 153 = .ok (.getfield 254, 3) := by decide +kernel
theorem d_Mod_count_156 : decode prog_14_method_105_code 156 = .ok (.ireturn, 1) := by decide +kernel
theorem d_Mod_count_157 : decode prog_14_method_105_code 157 = .ok (.aload_n 0, 1) := by decide +kernel
theorem d_Mod_count_158 : decode prog_14_method_105_code 158 = .ok (.getfield 257, 3) := by decide +kernel
theorem d_Mod_count_161 : decode prog_14_method_105_code 161 = .ok (.ireturn, 1) := by decide +kernel
theorem d_Mod_count_162 : decode prog_14_method_105_code 162 = .ok (.aload_n 0, 1) := by decide +kernel
theorem d_Mod_count_163 : decode prog_14_method_105_code 163 = .ok (.getfield 149, 3) := by decide +kernel
theorem d_Mod_count_166 : decode prog_14_method_105_code 166 = .ok (.iconst 0, 1) := by decide +kernel
theorem d_Mod_count_167 : decode prog_14_method_105_code 167 = .ok (.baload, 1) := by decide +kernel
theorem d_Mod_count_168 : decode prog_14_method_105_code 168 = .ok (.ifCond .eq 7, 3) := by decide +kernel
theorem d_Mod_count_171 : decode prog_14_method_105_code 171 = .ok (.iconst 1, 1) := by decide +kernel
theorem d_Mod_count_172 : decode prog_14_method_105_code 172 = .ok (.goto 4, 3) := by decide +kernel
theorem d_Mod_count_175 : decode prog_14_method_105_code 175 = .ok (.iconst 0, 1) := by decide +kernel
theorem d_Mod_count_176 : decode prog_14_method_105_code 176 = .ok (.aload_n 0, 1) := by decide +kernel
theorem d_Mod_count_177 : decode prog_14_method_105_code 177 = .ok (.getfield 149, 3) := by decide +kernel
theorem d_Mod_count_180 : decode prog_14_method_105_code 180 = .ok (.iconst 1, 1) := by decide +kernel
theorem d_Mod_count_181 : decode prog_14_method_105_code 181 = .ok (.baload, 1) := by decide +kernel
theorem d_Mod_count_182 : decode prog_14_method_105_code 182 = .ok (.ifCond .eq 7, 3) := by decide +kernel
theorem d_Mod_count_185 : decode prog_14_method_105_code 185 = .ok (.iconst 1, 1) := by decide +kernel
theorem d_Mod_count_186 : decode prog_14_method_105_code 186 = .ok (.goto 4, 3) := by decide +kernel
theorem d_Mod_count_189 : decode prog_14_method_105_code 189 = .ok (.iconst 0, 1) := by decide +kernel
theorem d_Mod_count_190 : decode prog_14_method_105_code 190 = .ok (.iadd, 1) := by decide +kernel
theorem d_Mod_count_191 : decode prog_14_method_105_code 191 = .ok (.aload_n 0, 1) := by decide +kernel
theorem d_Mod_count_192 : decode prog_14_method_105_code 192 = .ok (.getfield 149, 3) := by decide +kernel
theorem d_Mod_count_195 : decode prog_14_method_105_code 195 = .ok (.iconst 2, 1) := by decide +kernel
theorem d_Mod_count_196 : decode prog_14_method_105_code 196 = .ok (.baload, 1) := by decide +kernel
theorem d_Mod_count_197 : decode prog_14_method_105_code 197 = .ok (.ifCond .eq 7, 3) := by decide +kernel
theorem d_Mod_count_200 : decode prog_14_method_105_code 200 = .ok (.iconst 1, 1) := by decide +kernel
theorem d_Mod_count_201 : decode prog_14_method_105_code 201 = .ok (.goto 4, 3) := by decide +kernel
theorem d_Mod_count_204 : decode prog_14_method_105_code 204 = .ok (.iconst 0, 1) := by decide +kernel
theorem d_Mod_count_205 : decode prog_14_method_105_code 205 = .ok (.iadd, 1) := by decide +kernel
theorem d_Mod_count_206 : decode prog_14_method_105_code 206 = .ok (.ireturn, 1) := by decide +kernel
theorem d_Mod_count_207 : decode prog_14_method_105_code 207 = .ok (.aload_n 0, 1) := by decide +kernel
theorem d_Mod_count_208 : decode prog_14_method_105_code 208 = .ok (.getfield 122, 3) := by decide +kernel
theorem d_Mod_count_211 : decode prog_14_method_105_code 211 = .ok (.bipush 37, 2) := by decide +kernel
theorem d_Mod_count_213 : decode prog_14_method_105_code 213 = .ok (.iaload, 1) := by decide +kernel
theorem d_Mod_count_214 : decode prog_14_method_105_code 214 = .ok (.ireturn, 1) := by decide +kernel
theorem d_Mod_count_215 : decode prog_14_method_105_code 215 = .ok (.aload_n 0, 1) := by decide +kernel
theorem d_Mod_count_216 : decode prog_14_method_105_code 216 = .ok (.getfield 122, 3) := by decide +kernel
theorem d_Mod_count_219 : decode prog_14_method_105_code 219 = .ok (.bipush 31, 2) := by decide +kernel
theorem d_Mod_count_221 : decode prog_14_method_105_code 221 = .ok (.iaload, 1) := by decide +kernel
theorem d_Mod_count_222 : decode prog_14_method_105_code 222 = .ok (.aload_n 0, 1) := by decide +kernel
theorem d_Mod_count_223 : decode prog_14_method_105_code 223 = .ok (.getfield 122, 3) := by decide +kernel
theorem d_Mod_count_226 : decode prog_14_method_105_code 226 = .ok (.bipush 32, 2) := by decide +kernel
theorem d_Mod_count_228 : decode prog_14_method_105_code 228 = .ok (.iaload, 1) := by decide +kernel
theorem d_Mod_count_229 : decode prog_14_method_105_code 229 = .ok (.iadd, 1) := by decide +kernel
theorem d_Mod_count_230 : decode prog_14_method_105_code 230 = .ok (.aload_n 0, 1) := by decide +kernel
theorem d_Mod_count_231 : decode prog_14_method_105_code 231 = .ok (.getfield 122, 3) := by decide +kernel
theorem d_Mod_count_234 : decode prog_14_method_105_code 234 = .ok (.bipush 33, 2) := by decide +kernel
theorem d_Mod_count_236 : decode prog_14_method_105_code 236 = .ok (.iaload, 1) := by decide +kernel
theorem d_Mod_count_237 : decode prog_14_method_105_code 237 = .ok (.iadd, 1) := by decide +kernel
theorem d_Mod_count_238 : decode prog_14_method_105_code 238 = .ok (.aload_n 0, 1) := by decide +kernel
theorem d_Mod_count_239 : decode prog_14_method_105_code 239 = .ok (.getfield 122, 3) := by decide +kernel
theorem d_Mod_count_242 : decode prog_14_method_105_code 242 = .ok (.bipush 34, 2) := by decide +kernel
theorem d_Mod_count_244 : decode prog_14_method_105_code 244 = .ok (.iaload, 1) := by decide +kernel
theorem d_Mod_count_245 : decode prog_14_method_105_code 245 = .ok (.iadd, 1) := by decide +kernel
theorem d_Mod_count_246 : decode prog_14_method_105_code 246 = .ok (.ireturn, 1) := by decide +kernel
theorem d_Mod_count_247 : decode prog_14_method_105_code 247 = .ok (.iconst (-1), 1) := by decide +kernel
theorem d_Mod_count_248 : decode prog_14_method_105_code 248 = .ok (.ireturn, 1) := by decide +kernel
end MG1x1
