abbrev Y_Needs_init : zc_Y := (⟨R_Needs, "<init>", "(I)V"⟩, prog_6_method_1_code, 2, none)
abbrev Y_Failings_init : zc_Y := (⟨R_Failings, "<init>", "()V"⟩, prog_4_method_1_code, 1, none)
abbrev Y_Line_init : zc_Y := (⟨R_Line, "<init>", "(I)V"⟩, prog_5_method_1_code, 2, none)
abbrev Y_Crew_init : zc_Y := (⟨R_Crew, "<init>", "()V"⟩, prog_3_method_1_code, 1, none)
abbrev Y_Plan_init : zc_Y := (⟨R_Plan, "<init>", "(II)V"⟩, prog_7_method_1_code, 3, none)
abbrev Y_Course_init : zc_Y := (⟨R_Course, "<init>", "(LTileShares$Plan;)V"⟩, prog_2_method_1_code, 2, none)
abbrev Y_TS_init : zc_Y := (⟨R_TS, "<init>", "(II)V"⟩, prog_1_method_1_code, 4, none)
abbrev Y_Model_init : zc_Y := (⟨R_Model, "<init>", "(II)V"⟩, prog_9_method_1_code, 3, none)
theorem d_Needs_init_0 : decode prog_6_method_1_code 0 = .ok (.aload_n 0, 1) := by decide +kernel
theorem d_Needs_init_1 : decode prog_6_method_1_code 1 = .ok (.invokespecial 3, 3) := by decide +kernel
theorem d_Needs_init_4 : decode prog_6_method_1_code 4 = .ok (.aload_n 0, 1) := by decide +kernel
theorem d_Needs_init_5 : decode prog_6_method_1_code 5 = .ok (.iload_n 1, 1) := by decide +kernel
theorem d_Needs_init_6 : decode prog_6_method_1_code 6 = .ok (.newarray .int, 2) := by decide +kernel
theorem d_Needs_init_8 : decode prog_6_method_1_code 8 = .ok (.putfield 9, 3) := by decide +kernel
theorem d_Needs_init_11 : decode prog_6_method_1_code 11 = .ok (.aload_n 0, 1) := by decide +kernel
theorem d_Needs_init_12 : decode prog_6_method_1_code 12 = .ok (.iload_n 1, 1) := by decide +kernel
theorem d_Needs_init_13 : decode prog_6_method_1_code 13 = .ok (.bipush 6, 2) := by decide +kernel
theorem d_Needs_init_15 : decode prog_6_method_1_code 15 = .ok (.multianewarray 15 2, 4) := by decide +kernel
theorem d_Needs_init_19 : decode prog_6_method_1_code 19 = .ok (.putfield 17, 3) := by decide +kernel
theorem d_Needs_init_22 : decode prog_6_method_1_code 22 = .ok (.aload_n 0, 1) := by decide +kernel
theorem d_Needs_init_23 : decode prog_6_method_1_code 23 = .ok (.iload_n 1, 1) := by decide +kernel
theorem d_Needs_init_24 : decode prog_6_method_1_code 24 = .ok (.bipush 6, 2) := by decide +kernel
theorem d_Needs_init_26 : decode prog_6_method_1_code 26 = .ok (.multianewarray 15 2, 4) := by decide +kernel
theorem d_Needs_init_30 : decode prog_6_method_1_code 30 = .ok (.putfield 20, 3) := by decide +kernel
theorem d_Needs_init_33 : decode prog_6_method_1_code 33 = .ok (.aload_n 0, 1) := by decide +kernel
theorem d_Needs_init_34 : decode prog_6_method_1_code 34 = .ok (.iload_n 1, 1) := by decide +kernel
theorem d_Needs_init_35 : decode prog_6_method_1_code 35 = .ok (.bipush 6, 2) := by decide +kernel
theorem d_Needs_init_37 : decode prog_6_method_1_code 37 = .ok (.multianewarray 15 2, 4) := by decide +kernel
theorem d_Needs_init_41 : decode prog_6_method_1_code 41 = .ok (.putfield 23, 3) := by decide +kernel
theorem d_Needs_init_44 : decode prog_6_method_1_code 44 = .ok (.return_, 1) := by decide +kernel
theorem d_Failings_init_0 : decode prog_4_method_1_code 0 = .ok (.aload_n 0, 1) := by decide +kernel
theorem d_Failings_init_1 : decode prog_4_method_1_code 1 = .ok (.invokespecial 3, 3) := by decide +kernel
theorem d_Failings_init_4 : decode prog_4_method_1_code 4 = .ok (.aload_n 0, 1) := by decide +kernel
theorem d_Failings_init_5 : decode prog_4_method_1_code 5 = .ok (.bipush 8, 2) := by decide +kernel
theorem d_Failings_init_7 : decode prog_4_method_1_code 7 = .ok (.newarray .int, 2) := by decide +kernel
theorem d_Failings_init_9 : decode prog_4_method_1_code 9 = .ok (.putfield 9, 3) := by decide +kernel
theorem d_Failings_init_12 : decode prog_4_method_1_code 12 = .ok (.aload_n 0, 1) := by decide +kernel
theorem d_Failings_init_13 : decode prog_4_method_1_code 13 = .ok (.bipush 8, 2) := by decide +kernel
theorem d_Failings_init_15 : decode prog_4_method_1_code 15 = .ok (.newarray .int, 2) := by decide +kernel
theorem d_Failings_init_17 : decode prog_4_method_1_code 17 = .ok (.putfield 15, 3) := by decide +kernel
theorem d_Failings_init_20 : decode prog_4_method_1_code 20 = .ok (.aload_n 0, 1) := by decide +kernel
theorem d_Failings_init_21 : decode prog_4_method_1_code 21 = .ok (.bipush 8, 2) := by decide +kernel
theorem d_Failings_init_23 : decode prog_4_method_1_code 23 = .ok (.newarray .int, 2) := by decide +kernel
theorem d_Failings_init_25 : decode prog_4_method_1_code 25 = .ok (.putfield 18, 3) := by decide +kernel
theorem d_Failings_init_28 : decode prog_4_method_1_code 28 = .ok (.aload_n 0, 1) := by decide +kernel
theorem d_Failings_init_29 : decode prog_4_method_1_code 29 = .ok (.bipush 8, 2) := by decide +kernel
theorem d_Failings_init_31 : decode prog_4_method_1_code 31 = .ok (.newarray .int, 2) := by decide +kernel
theorem d_Failings_init_33 : decode prog_4_method_1_code 33 = .ok (.putfield 21, 3) := by decide +kernel
theorem d_Failings_init_36 : decode prog_4_method_1_code 36 = .ok (.aload_n 0, 1) := by decide +kernel
theorem d_Failings_init_37 : decode prog_4_method_1_code 37 = .ok (.bipush 8, 2) := by decide +kernel
theorem d_Failings_init_39 : decode prog_4_method_1_code 39 = .ok (.newarray .int, 2) := by decide +kernel
theorem d_Failings_init_41 : decode prog_4_method_1_code 41 = .ok (.putfield 24, 3) := by decide +kernel
theorem d_Failings_init_44 : decode prog_4_method_1_code 44 = .ok (.return_, 1) := by decide +kernel
theorem d_Line_init_0 : decode prog_5_method_1_code 0 = .ok (.aload_n 0, 1) := by decide +kernel
theorem d_Line_init_1 : decode prog_5_method_1_code 1 = .ok (.invokespecial 3, 3) := by decide +kernel
theorem d_Line_init_4 : decode prog_5_method_1_code 4 = .ok (.aload_n 0, 1) := by decide +kernel
theorem d_Line_init_5 : decode prog_5_method_1_code 5 = .ok (.iload_n 1, 1) := by decide +kernel
theorem d_Line_init_6 : decode prog_5_method_1_code 6 = .ok (.newarray .int, 2) := by decide +kernel
theorem d_Line_init_8 : decode prog_5_method_1_code 8 = .ok (.putfield 9, 3) := by decide +kernel
theorem d_Line_init_11 : decode prog_5_method_1_code 11 = .ok (.return_, 1) := by decide +kernel
theorem d_Crew_init_0 : decode prog_3_method_1_code 0 = .ok (.aload_n 0, 1) := by decide +kernel
theorem d_Crew_init_1 : decode prog_3_method_1_code 1 = .ok (.invokespecial 3, 3) := by decide +kernel
theorem d_Crew_init_4 : decode prog_3_method_1_code 4 = .ok (.aload_n 0, 1) := by decide +kernel
theorem d_Crew_init_5 : decode prog_3_method_1_code 5 = .ok (.bipush 16, 2) := by decide +kernel
theorem d_Crew_init_7 : decode prog_3_method_1_code 7 = .ok (.newarray .int, 2) := by decide +kernel
theorem d_Crew_init_9 : decode prog_3_method_1_code 9 = .ok (.putfield 9, 3) := by decide +kernel
theorem d_Crew_init_12 : decode prog_3_method_1_code 12 = .ok (.aload_n 0, 1) := by decide +kernel
theorem d_Crew_init_13 : decode prog_3_method_1_code 13 = .ok (.bipush 16, 2) := by decide +kernel
theorem d_Crew_init_15 : decode prog_3_method_1_code 15 = .ok (.newarray .int, 2) := by decide +kernel
theorem d_Crew_init_17 : decode prog_3_method_1_code 17 = .ok (.putfield 15, 3) := by decide +kernel
theorem d_Crew_init_20 : decode prog_3_method_1_code 20 = .ok (.return_, 1) := by decide +kernel
theorem d_Plan_init_0 : decode prog_7_method_1_code 0 = .ok (.aload_n 0, 1) := by decide +kernel
theorem d_Plan_init_1 : decode prog_7_method_1_code 1 = .ok (.invokespecial 3, 3) := by decide +kernel
theorem d_Plan_init_4 : decode prog_7_method_1_code 4 = .ok (.aload_n 0, 1) := by decide +kernel
theorem d_Plan_init_5 : decode prog_7_method_1_code 5 = .ok (.iload_n 1, 1) := by decide +kernel
theorem d_Plan_init_6 : decode prog_7_method_1_code 6 = .ok (.putfield 9, 3) := by decide +kernel
theorem d_Plan_init_9 : decode prog_7_method_1_code 9 = .ok (.aload_n 0, 1) := by decide +kernel
theorem d_Plan_init_10 : decode prog_7_method_1_code 10 = .ok (.iload_n 2, 1) := by decide +kernel
theorem d_Plan_init_11 : decode prog_7_method_1_code 11 = .ok (.putfield 15, 3) := by decide +kernel
theorem d_Plan_init_14 : decode prog_7_method_1_code 14 = .ok (.aload_n 0, 1) := by decide +kernel
theorem d_Plan_init_15 : decode prog_7_method_1_code 15 = .ok (.iload_n 1, 1) := by decide +kernel
theorem d_Plan_init_16 : decode prog_7_method_1_code 16 = .ok (.newarray .int, 2) := by decide +kernel
theorem d_Plan_init_18 : decode prog_7_method_1_code 18 = .ok (.putfield 18, 3) := by decide +kernel
theorem d_Plan_init_21 : decode prog_7_method_1_code 21 = .ok (.aload_n 0, 1) := by decide +kernel
theorem d_Plan_init_22 : decode prog_7_method_1_code 22 = .ok (.iload_n 1, 1) := by decide +kernel
theorem d_Plan_init_23 : decode prog_7_method_1_code 23 = .ok (.newarray .int, 2) := by decide +kernel
theorem d_Plan_init_25 : decode prog_7_method_1_code 25 = .ok (.putfield 22, 3) := by decide +kernel
theorem d_Plan_init_28 : decode prog_7_method_1_code 28 = .ok (.aload_n 0, 1) := by decide +kernel
theorem d_Plan_init_29 : decode prog_7_method_1_code 29 = .ok (.iload_n 1, 1) := by decide +kernel
theorem d_Plan_init_30 : decode prog_7_method_1_code 30 = .ok (.newarray .long, 2) := by decide +kernel
theorem d_Plan_init_32 : decode prog_7_method_1_code 32 = .ok (.putfield 25, 3) := by decide +kernel
theorem d_Plan_init_35 : decode prog_7_method_1_code 35 = .ok (.aload_n 0, 1) := by decide +kernel
theorem d_Plan_init_36 : decode prog_7_method_1_code 36 = .ok (.new 29, 3) := by decide +kernel
theorem d_Plan_init_39 : decode prog_7_method_1_code 39 = .ok (.dup, 1) := by decide +kernel
theorem d_Plan_init_40 : decode prog_7_method_1_code 40 = .ok (.iload_n 1, 1) := by decide +kernel
theorem d_Plan_init_41 : decode prog_7_method_1_code 41 = .ok (.invokespecial 31, 3) := by decide +kernel
theorem d_Plan_init_44 : decode prog_7_method_1_code 44 = .ok (.putfield 34, 3) := by decide +kernel
theorem d_Plan_init_47 : decode prog_7_method_1_code 47 = .ok (.aload_n 0, 1) := by decide +kernel
theorem d_Plan_init_48 : decode prog_7_method_1_code 48 = .ok (.new 38, 3) := by decide +kernel
theorem d_Plan_init_51 : decode prog_7_method_1_code 51 = .ok (.dup, 1) := by decide +kernel
theorem d_Plan_init_52 : decode prog_7_method_1_code 52 = .ok (.invokespecial 40, 3) := by decide +kernel
theorem d_Plan_init_55 : decode prog_7_method_1_code 55 = .ok (.putfield 41, 3) := by decide +kernel
theorem d_Plan_init_58 : decode prog_7_method_1_code 58 = .ok (.aload_n 0, 1) := by decide +kernel
theorem d_Plan_init_59 : decode prog_7_method_1_code 59 = .ok (.invokevirtual 45, 3) := by decide +kernel
theorem d_Plan_init_62 : decode prog_7_method_1_code 62 = .ok (.return_, 1) := by decide +kernel
theorem d_Course_init_0 : decode prog_2_method_1_code 0 = .ok (.aload_n 0, 1) := by decide +kernel
theorem d_Course_init_1 : decode prog_2_method_1_code 1 = .ok (.invokespecial 3, 3) := by decide +kernel
theorem d_Course_init_4 : decode prog_2_method_1_code 4 = .ok (.aload_n 0, 1) := by decide +kernel
theorem d_Course_init_5 : decode prog_2_method_1_code 5 = .ok (.aload_n 1, 1) := by decide +kernel
theorem d_Course_init_6 : decode prog_2_method_1_code 6 = .ok (.putfield 9, 3) := by decide +kernel
theorem d_Course_init_9 : decode prog_2_method_1_code 9 = .ok (.aload_n 0, 1) := by decide +kernel
theorem d_Course_init_10 : decode prog_2_method_1_code 10 = .ok (.new 15, 3) := by decide +kernel
theorem d_Course_init_13 : decode prog_2_method_1_code 13 = .ok (.dup, 1) := by decide +kernel
theorem d_Course_init_14 : decode prog_2_method_1_code 14 = .ok (.aload_n 1, 1) := by decide +kernel
theorem d_Course_init_15 : decode prog_2_method_1_code 15 = .ok (.getfield 17, 3) := by decide +kernel
theorem d_Course_init_18 : decode prog_2_method_1_code 18 = .ok (.invokespecial 23, 3) := by decide +kernel
theorem d_Course_init_21 : decode prog_2_method_1_code 21 = .ok (.putfield 26, 3) := by decide +kernel
theorem d_Course_init_24 : decode prog_2_method_1_code 24 = .ok (.aload_n 0, 1) := by decide +kernel
theorem d_Course_init_25 : decode prog_2_method_1_code 25 = .ok (.new 30, 3) := by decide +kernel
theorem d_Course_init_28 : decode prog_2_method_1_code 28 = .ok (.dup, 1) := by decide +kernel
theorem d_Course_init_29 : decode prog_2_method_1_code 29 = .ok (.invokespecial 32, 3) := by decide +kernel
theorem d_Course_init_32 : decode prog_2_method_1_code 32 = .ok (.putfield 33, 3) := by decide +kernel
theorem d_Course_init_35 : decode prog_2_method_1_code 35 = .ok (.aload_n 0, 1) := by decide +kernel
theorem d_Course_init_36 : decode prog_2_method_1_code 36 = .ok (.aload_n 1, 1) := by decide +kernel
theorem d_Course_init_37 : decode prog_2_method_1_code 37 = .ok (.getfield 17, 3) := by decide +kernel
theorem d_Course_init_40 : decode prog_2_method_1_code 40 = .ok (.newarray .int, 2) := by decide +kernel
theorem d_Course_init_42 : decode prog_2_method_1_code 42 = .ok (.putfield 37, 3) := by decide +kernel
theorem d_Course_init_45 : decode prog_2_method_1_code 45 = .ok (.aload_n 0, 1) := by decide +kernel
theorem d_Course_init_46 : decode prog_2_method_1_code 46 = .ok (.aload_n 1, 1) := by decide +kernel
theorem d_Course_init_47 : decode prog_2_method_1_code 47 = .ok (.getfield 17, 3) := by decide +kernel
theorem d_Course_init_50 : decode prog_2_method_1_code 50 = .ok (.bipush 21, 2) := by decide +kernel
theorem d_Course_init_52 : decode prog_2_method_1_code 52 = .ok (.multianewarray 41 2, 4) := by decide +kernel
theorem d_Course_init_56 : decode prog_2_method_1_code 56 = .ok (.putfield 43, 3) := by decide +kernel
theorem d_Course_init_59 : decode prog_2_method_1_code 59 = .ok (.aload_n 0, 1) := by decide +kernel
theorem d_Course_init_60 : decode prog_2_method_1_code 60 = .ok (.aload_n 1, 1) := by decide +kernel
theorem d_Course_init_61 : decode prog_2_method_1_code 61 = .ok (.getfield 17, 3) := by decide +kernel
theorem d_Course_init_64 : decode prog_2_method_1_code 64 = .ok (.newarray .int, 2) := by decide +kernel
theorem d_Course_init_66 : decode prog_2_method_1_code 66 = .ok (.putfield 46, 3) := by decide +kernel
theorem d_Course_init_69 : decode prog_2_method_1_code 69 = .ok (.aload_n 0, 1) := by decide +kernel
theorem d_Course_init_70 : decode prog_2_method_1_code 70 = .ok (.aload_n 1, 1) := by decide +kernel
theorem d_Course_init_71 : decode prog_2_method_1_code 71 = .ok (.getfield 17, 3) := by decide +kernel
theorem d_Course_init_74 : decode prog_2_method_1_code 74 = .ok (.aload_n 1, 1) := by decide +kernel
theorem d_Course_init_75 : decode prog_2_method_1_code 75 = .ok (.getfield 17, 3) := by decide +kernel
theorem d_Course_init_78 : decode prog_2_method_1_code 78 = .ok (.multianewarray 49 2, 4) := by decide +kernel
theorem d_Course_init_82 : decode prog_2_method_1_code 82 = .ok (.putfield 51, 3) := by decide +kernel
theorem d_Course_init_85 : decode prog_2_method_1_code 85 = .ok (.aload_n 0, 1) := by decide +kernel
theorem d_Course_init_86 : decode prog_2_method_1_code 86 = .ok (.aload_n 1, 1) := by decide +kernel
theorem d_Course_init_87 : decode prog_2_method_1_code 87 = .ok (.getfield 17, 3) := by decide +kernel
theorem d_Course_init_90 : decode prog_2_method_1_code 90 = .ok (.newarray .int, 2) := by decide +kernel
theorem d_Course_init_92 : decode prog_2_method_1_code 92 = .ok (.putfield 54, 3) := by decide +kernel
theorem d_Course_init_95 : decode prog_2_method_1_code 95 = .ok (.return_, 1) := by decide +kernel
theorem d_TS_init_0 : decode prog_1_method_1_code 0 = .ok (.aload_n 0, 1) := by decide +kernel
theorem d_TS_init_1 : decode prog_1_method_1_code 1 = .ok (.invokespecial 1, 3) := by decide +kernel
theorem d_TS_init_4 : decode prog_1_method_1_code 4 = .ok (.iload_n 1, 1) := by decide +kernel
theorem d_TS_init_5 : decode prog_1_method_1_code 5 = .ok (.iconst 1, 1) := by decide +kernel
theorem d_TS_init_6 : decode prog_1_method_1_code 6 = .ok (.bipush 16, 2) := by decide +kernel
theorem d_TS_init_8 : decode prog_1_method_1_code 8 = .ok (.invokestatic 9, 3) := by decide +kernel
theorem d_TS_init_11 : decode prog_1_method_1_code 11 = .ok (.istore_n 3, 1) := by decide +kernel
theorem d_TS_init_12 : decode prog_1_method_1_code 12 = .ok (.aload_n 0, 1) := by decide +kernel
theorem d_TS_init_13 : decode prog_1_method_1_code 13 = .ok (.new 13, 3) := by decide +kernel
theorem d_TS_init_16 : decode prog_1_method_1_code 16 = .ok (.dup, 1) := by decide +kernel
theorem d_TS_init_17 : decode prog_1_method_1_code 17 = .ok (.iload_n 3, 1) := by decide +kernel
theorem d_TS_init_18 : decode prog_1_method_1_code 18 = .ok (.iload_n 2, 1) := by decide +kernel
theorem d_TS_init_19 : decode prog_1_method_1_code 19 = .ok (.iconst 1, 1) := by decide +kernel
theorem d_TS_init_20 : decode prog_1_method_1_code 20 = .ok (.sipush 1000, 3) := by decide +kernel
theorem d_TS_init_23 : decode prog_1_method_1_code 23 = .ok (.invokestatic 9, 3) := by decide +kernel
theorem d_TS_init_26 : decode prog_1_method_1_code 26 = .ok (.invokespecial 15, 3) := by decide +kernel
theorem d_TS_init_29 : decode prog_1_method_1_code 29 = .ok (.putfield 18, 3) := by decide +kernel
theorem d_TS_init_32 : decode prog_1_method_1_code 32 = .ok (.aload_n 0, 1) := by decide +kernel
theorem d_TS_init_33 : decode prog_1_method_1_code 33 = .ok (.new 22, 3) := by decide +kernel
theorem d_TS_init_36 : decode prog_1_method_1_code 36 = .ok (.dup, 1) := by decide +kernel
theorem d_TS_init_37 : decode prog_1_method_1_code 37 = .ok (.aload_n 0, 1) := by decide +kernel
theorem d_TS_init_38 : decode prog_1_method_1_code 38 = .ok (.getfield 18, 3) := by decide +kernel
theorem d_TS_init_41 : decode prog_1_method_1_code 41 = .ok (.invokespecial 24, 3) := by decide +kernel
theorem d_TS_init_44 : decode prog_1_method_1_code 44 = .ok (.putfield 27, 3) := by decide +kernel
theorem d_TS_init_47 : decode prog_1_method_1_code 47 = .ok (.aload_n 0, 1) := by decide +kernel
theorem d_TS_init_48 : decode prog_1_method_1_code 48 = .ok (.iload_n 3, 1) := by decide +kernel
theorem d_TS_init_49 : decode prog_1_method_1_code 49 = .ok (.newarray .boolean, 2) := by decide +kernel
theorem d_TS_init_51 : decode prog_1_method_1_code 51 = .ok (.putfield 31, 3) := by decide +kernel
theorem d_TS_init_54 : decode prog_1_method_1_code 54 = .ok (.aload_n 0, 1) := by decide +kernel
theorem d_TS_init_55 : decode prog_1_method_1_code 55 = .ok (.iload_n 3, 1) := by decide +kernel
theorem d_TS_init_56 : decode prog_1_method_1_code 56 = .ok (.newarray .long, 2) := by decide +kernel
theorem d_TS_init_58 : decode prog_1_method_1_code 58 = .ok (.putfield 35, 3) := by decide +kernel
theorem d_TS_init_61 : decode prog_1_method_1_code 61 = .ok (.return_, 1) := by decide +kernel
theorem d_Model_init_0 : decode prog_9_method_1_code 0 = .ok (.aload_n 0, 1) := by decide +kernel
theorem d_Model_init_1 : decode prog_9_method_1_code 1 = .ok (.invokespecial 1, 3) := by decide +kernel
theorem d_Model_init_4 : decode prog_9_method_1_code 4 = .ok (.aload_n 0, 1) := by decide +kernel
theorem d_Model_init_5 : decode prog_9_method_1_code 5 = .ok (.bipush 16, 2) := by decide +kernel
theorem d_Model_init_7 : decode prog_9_method_1_code 7 = .ok (.newarray .int, 2) := by decide +kernel
theorem d_Model_init_9 : decode prog_9_method_1_code 9 = .ok (.putfield 7, 3) := by decide +kernel
theorem d_Model_init_12 : decode prog_9_method_1_code 12 = .ok (.aload_n 0, 1) := by decide +kernel
theorem d_Model_init_13 : decode prog_9_method_1_code 13 = .ok (.bipush 16, 2) := by decide +kernel
theorem d_Model_init_15 : decode prog_9_method_1_code 15 = .ok (.newarray .int, 2) := by decide +kernel
theorem d_Model_init_17 : decode prog_9_method_1_code 17 = .ok (.putfield 13, 3) := by decide +kernel
theorem d_Model_init_20 : decode prog_9_method_1_code 20 = .ok (.aload_n 0, 1) := by decide +kernel
theorem d_Model_init_21 : decode prog_9_method_1_code 21 = .ok (.bipush 16, 2) := by decide +kernel
theorem d_Model_init_23 : decode prog_9_method_1_code 23 = .ok (.newarray .long, 2) := by decide +kernel
theorem d_Model_init_25 : decode prog_9_method_1_code 25 = .ok (.putfield 16, 3) := by decide +kernel
theorem d_Model_init_28 : decode prog_9_method_1_code 28 = .ok (.aload_n 0, 1) := by decide +kernel
theorem d_Model_init_29 : decode prog_9_method_1_code 29 = .ok (.bipush 16, 2) := by decide +kernel
theorem d_Model_init_31 : decode prog_9_method_1_code 31 = .ok (.newarray .int, 2) := by decide +kernel
theorem d_Model_init_33 : decode prog_9_method_1_code 33 = .ok (.putfield 20, 3) := by decide +kernel
theorem d_Model_init_36 : decode prog_9_method_1_code 36 = .ok (.aload_n 0, 1) := by decide +kernel
theorem d_Model_init_37 : decode prog_9_method_1_code 37 = .ok (.bipush 96, 2) := by decide +kernel
theorem d_Model_init_39 : decode prog_9_method_1_code 39 = .ok (.newarray .int, 2) := by decide +kernel
theorem d_Model_init_41 : decode prog_9_method_1_code 41 = .ok (.putfield 23, 3) := by decide +kernel
theorem d_Model_init_44 : decode prog_9_method_1_code 44 = .ok (.aload_n 0, 1) := by decide +kernel
theorem d_Model_init_45 : decode prog_9_method_1_code 45 = .ok (.bipush 96, 2) := by decide +kernel
theorem d_Model_init_47 : decode prog_9_method_1_code 47 = .ok (.newarray .int, 2) := by decide +kernel
theorem d_Model_init_49 : decode prog_9_method_1_code 49 = .ok (.putfield 26, 3) := by decide +kernel
theorem d_Model_init_52 : decode prog_9_method_1_code 52 = .ok (.aload_n 0, 1) := by decide +kernel
theorem d_Model_init_53 : decode prog_9_method_1_code 53 = .ok (.bipush 96, 2) := by decide +kernel
theorem d_Model_init_55 : decode prog_9_method_1_code 55 = .ok (.newarray .int, 2) := by decide +kernel
theorem d_Model_init_57 : decode prog_9_method_1_code 57 = .ok (.putfield 29, 3) := by decide +kernel
theorem d_Model_init_60 : decode prog_9_method_1_code 60 = .ok (.aload_n 0, 1) := by decide +kernel
theorem d_Model_init_61 : decode prog_9_method_1_code 61 = .ok (.bipush 8, 2) := by decide +kernel
theorem d_Model_init_63 : decode prog_9_method_1_code 63 = .ok (.newarray .int, 2) := by decide +kernel
theorem d_Model_init_65 : decode prog_9_method_1_code 65 = .ok (.putfield 32, 3) := by decide +kernel
theorem d_Model_init_68 : decode prog_9_method_1_code 68 = .ok (.aload_n 0, 1) := by decide +kernel
theorem d_Model_init_69 : decode prog_9_method_1_code 69 = .ok (.bipush 8, 2) := by decide +kernel
theorem d_Model_init_71 : decode prog_9_method_1_code 71 = .ok (.newarray .int, 2) := by decide +kernel
theorem d_Model_init_73 : decode prog_9_method_1_code 73 = .ok (.putfield 35, 3) := by decide +kernel
theorem d_Model_init_76 : decode prog_9_method_1_code 76 = .ok (.aload_n 0, 1) := by decide +kernel
theorem d_Model_init_77 : decode prog_9_method_1_code 77 = .ok (.bipush 8, 2) := by decide +kernel
theorem d_Model_init_79 : decode prog_9_method_1_code 79 = .ok (.newarray .int, 2) := by decide +kernel
theorem d_Model_init_81 : decode prog_9_method_1_code 81 = .ok (.putfield 38, 3) := by decide +kernel
theorem d_Model_init_84 : decode prog_9_method_1_code 84 = .ok (.aload_n 0, 1) := by decide +kernel
theorem d_Model_init_85 : decode prog_9_method_1_code 85 = .ok (.bipush 8, 2) := by decide +kernel
theorem d_Model_init_87 : decode prog_9_method_1_code 87 = .ok (.newarray .int, 2) := by decide +kernel
theorem d_Model_init_89 : decode prog_9_method_1_code 89 = .ok (.putfield 41, 3) := by decide +kernel
theorem d_Model_init_92 : decode prog_9_method_1_code 92 = .ok (.aload_n 0, 1) := by decide +kernel
theorem d_Model_init_93 : decode prog_9_method_1_code 93 = .ok (.bipush 8, 2) := by decide +kernel
theorem d_Model_init_95 : decode prog_9_method_1_code 95 = .ok (.newarray .int, 2) := by decide +kernel
theorem d_Model_init_97 : decode prog_9_method_1_code 97 = .ok (.putfield 44, 3) := by decide +kernel
theorem d_Model_init_100 : decode prog_9_method_1_code 100 = .ok (.aload_n 0, 1) := by decide +kernel
theorem d_Model_init_101 : decode prog_9_method_1_code 101 = .ok (.bipush 16, 2) := by decide +kernel
theorem d_Model_init_103 : decode prog_9_method_1_code 103 = .ok (.newarray .boolean, 2) := by decide +kernel
theorem d_Model_init_105 : decode prog_9_method_1_code 105 = .ok (.putfield 47, 3) := by decide +kernel
theorem d_Model_init_108 : decode prog_9_method_1_code 108 = .ok (.aload_n 0, 1) := by decide +kernel
theorem d_Model_init_109 : decode prog_9_method_1_code 109 = .ok (.bipush 16, 2) := by decide +kernel
theorem d_Model_init_111 : decode prog_9_method_1_code 111 = .ok (.newarray .long, 2) := by decide +kernel
theorem d_Model_init_113 : decode prog_9_method_1_code 113 = .ok (.putfield 51, 3) := by decide +kernel
theorem d_Model_init_116 : decode prog_9_method_1_code 116 = .ok (.aload_n 0, 1) := by decide +kernel
theorem d_Model_init_117 : decode prog_9_method_1_code 117 = .ok (.sipush 336, 3) := by decide +kernel
theorem d_Model_init_120 : decode prog_9_method_1_code 120 = .ok (.newarray .long, 2) := by decide +kernel
theorem d_Model_init_122 : decode prog_9_method_1_code 122 = .ok (.putfield 54, 3) := by decide +kernel
theorem d_Model_init_125 : decode prog_9_method_1_code 125 = .ok (.aload_n 0, 1) := by decide +kernel
theorem d_Model_init_126 : decode prog_9_method_1_code 126 = .ok (.bipush 16, 2) := by decide +kernel
theorem d_Model_init_128 : decode prog_9_method_1_code 128 = .ok (.newarray .int, 2) := by decide +kernel
theorem d_Model_init_130 : decode prog_9_method_1_code 130 = .ok (.putfield 57, 3) := by decide +kernel
theorem d_Model_init_133 : decode prog_9_method_1_code 133 = .ok (.aload_n 0, 1) := by decide +kernel
theorem d_Model_init_134 : decode prog_9_method_1_code 134 = .ok (.bipush 16, 2) := by decide +kernel
theorem d_Model_init_136 : decode prog_9_method_1_code 136 = .ok (.newarray .int, 2) := by decide +kernel
theorem d_Model_init_138 : decode prog_9_method_1_code 138 = .ok (.putfield 60, 3) := by decide +kernel
theorem d_Model_init_141 : decode prog_9_method_1_code 141 = .ok (.aload_n 0, 1) := by decide +kernel
theorem d_Model_init_142 : decode prog_9_method_1_code 142 = .ok (.bipush 16, 2) := by decide +kernel
theorem d_Model_init_144 : decode prog_9_method_1_code 144 = .ok (.newarray .int, 2) := by decide +kernel
theorem d_Model_init_146 : decode prog_9_method_1_code 146 = .ok (.putfield 63, 3) := by decide +kernel
theorem d_Model_init_149 : decode prog_9_method_1_code 149 = .ok (.aload_n 0, 1) := by decide +kernel
theorem d_Model_init_150 : decode prog_9_method_1_code 150 = .ok (.bipush 16, 2) := by decide +kernel
theorem d_Model_init_152 : decode prog_9_method_1_code 152 = .ok (.newarray .int, 2) := by decide +kernel
theorem d_Model_init_154 : decode prog_9_method_1_code 154 = .ok (.putfield 66, 3) := by decide +kernel
theorem d_Model_init_157 : decode prog_9_method_1_code 157 = .ok (.aload_n 0, 1) := by decide +kernel
theorem d_Model_init_158 : decode prog_9_method_1_code 158 = .ok (.bipush 16, 2) := by decide +kernel
theorem d_Model_init_160 : decode prog_9_method_1_code 160 = .ok (.newarray .int, 2) := by decide +kernel
theorem d_Model_init_162 : decode prog_9_method_1_code 162 = .ok (.putfield 69, 3) := by decide +kernel
theorem d_Model_init_165 : decode prog_9_method_1_code 165 = .ok (.aload_n 0, 1) := by decide +kernel
theorem d_Model_init_166 : decode prog_9_method_1_code 166 = .ok (.sipush 256, 3) := by decide +kernel
theorem d_Model_init_169 : decode prog_9_method_1_code 169 = .ok (.newarray .int, 2) := by decide +kernel
theorem d_Model_init_171 : decode prog_9_method_1_code 171 = .ok (.putfield 72, 3) := by decide +kernel
theorem d_Model_init_174 : decode prog_9_method_1_code 174 = .ok (.aload_n 0, 1) := by decide +kernel
theorem d_Model_init_175 : decode prog_9_method_1_code 175 = .ok (.iload_n 1, 1) := by decide +kernel
theorem d_Model_init_176 : decode prog_9_method_1_code 176 = .ok (.iconst 1, 1) := by decide +kernel
theorem d_Model_init_177 : decode prog_9_method_1_code 177 = .ok (.if_icmp .ge 7, 3) := by decide +kernel
theorem d_Model_init_180 : decode prog_9_method_1_code 180 = .ok (.iconst 1, 1) := by decide +kernel
theorem d_Model_init_181 : decode prog_9_method_1_code 181 = .ok (.goto 15, 3) := by decide +kernel
theorem d_Model_init_184 : decode prog_9_method_1_code 184 = .ok (.iload_n 1, 1) := by decide +kernel
theorem d_Model_init_185 : decode prog_9_method_1_code 185 = .ok (.bipush 16, 2) := by decide +kernel
theorem d_Model_init_187 : decode prog_9_method_1_code 187 = .ok (.if_icmp .le 8, 3) := by decide +kernel
theorem d_Model_init_190 : decode prog_9_method_1_code 190 = .ok (.bipush 16, 2) := by decide +kernel
theorem d_Model_init_192 : decode prog_9_method_1_code 192 = .ok (.goto 4, 3) := by decide +kernel
theorem d_Model_init_195 : decode prog_9_method_1_code 195 = .ok (.iload_n 1, 1) := by decide +kernel
theorem d_Model_init_196 : decode prog_9_method_1_code 196 = .ok (.putfield 75, 3) := by decide +kernel
theorem d_Model_init_199 : decode prog_9_method_1_code 199 = .ok (.aload_n 0, 1) := by decide +kernel
theorem d_Model_init_200 : decode prog_9_method_1_code 200 = .ok (.iload_n 2, 1) := by decide +kernel
theorem d_Model_init_201 : decode prog_9_method_1_code 201 = .ok (.iconst 1, 1) := by decide +kernel
theorem d_Model_init_202 : decode prog_9_method_1_code 202 = .ok (.if_icmp .ge 7, 3) := by decide +kernel
theorem d_Model_init_205 : decode prog_9_method_1_code 205 = .ok (.iconst 1, 1) := by decide +kernel
theorem d_Model_init_206 : decode prog_9_method_1_code 206 = .ok (.goto 17, 3) := by decide +kernel
theorem d_Model_init_209 : decode prog_9_method_1_code 209 = .ok (.iload_n 2, 1) := by decide +kernel
theorem d_Model_init_210 : decode prog_9_method_1_code 210 = .ok (.sipush 1000, 3) := by decide +kernel
theorem d_Model_init_213 : decode prog_9_method_1_code 213 = .ok (.if_icmp .le 9, 3) := by decide +kernel
theorem d_Model_init_216 : decode prog_9_method_1_code 216 = .ok (.sipush 1000, 3) := by decide +kernel
theorem d_Model_init_219 : decode prog_9_method_1_code 219 = .ok (.goto 4, 3) := by decide +kernel
theorem d_Model_init_222 : decode prog_9_method_1_code 222 = .ok (.iload_n 2, 1) := by decide +kernel
theorem d_Model_init_223 : decode prog_9_method_1_code 223 = .ok (.putfield 79, 3) := by decide +kernel
theorem d_Model_init_226 : decode prog_9_method_1_code 226 = .ok (.aload_n 0, 1) := by decide +kernel
theorem d_Model_init_227 : decode prog_9_method_1_code 227 = .ok (.invokevirtual 82, 3) := by decide +kernel
theorem d_Model_init_230 : decode prog_9_method_1_code 230 = .ok (.return_, 1) := by decide +kernel
theorem fp_Course_9 : zw_FP R_Course 9 0 0 (.object "TileShares$Plan") true := ⟨R_Course, T_Course, 15, ty_Course, rfl, by decide, ly_Course, ty_Course_ok, rfl, nm_Course, rfl, Or.inl ⟨(zw_in (List.mem_of_getElem? (i := 206) (by decide +kernel)) (by decide +kernel)), fun _ => rfl⟩⟩
theorem fp_Course_26 : zw_FP R_Course 26 0 1 (.object "TileShares$Line") true := ⟨R_Course, T_Course, 15, ty_Course, rfl, by decide, ly_Course, ty_Course_ok, rfl, nm_Course, rfl, Or.inl ⟨(zw_in (List.mem_of_getElem? (i := 207) (by decide +kernel)) (by decide +kernel)), fun _ => rfl⟩⟩
theorem fp_Course_33 : zw_FP R_Course 33 0 2 (.object "TileShares$Crew") true := ⟨R_Course, T_Course, 15, ty_Course, rfl, by decide, ly_Course, ty_Course_ok, rfl, nm_Course, rfl, Or.inl ⟨(zw_in (List.mem_of_getElem? (i := 208) (by decide +kernel)) (by decide +kernel)), fun _ => rfl⟩⟩
theorem fp_Course_37 : zw_FP R_Course 37 0 3 (.array .int) true := ⟨R_Course, T_Course, 15, ty_Course, rfl, by decide, ly_Course, ty_Course_ok, rfl, nm_Course, rfl, Or.inl ⟨(zw_in (List.mem_of_getElem? (i := 210) (by decide +kernel)) (by decide +kernel)), fun _ => rfl⟩⟩
theorem fp_Course_43 : zw_FP R_Course 43 0 4 (.array (.array .long)) true := ⟨R_Course, T_Course, 15, ty_Course, rfl, by decide, ly_Course, ty_Course_ok, rfl, nm_Course, rfl, Or.inl ⟨(zw_in (List.mem_of_getElem? (i := 211) (by decide +kernel)) (by decide +kernel)), fun _ => rfl⟩⟩
theorem fp_Course_46 : zw_FP R_Course 46 0 5 (.array .int) true := ⟨R_Course, T_Course, 15, ty_Course, rfl, by decide, ly_Course, ty_Course_ok, rfl, nm_Course, rfl, Or.inl ⟨(zw_in (List.mem_of_getElem? (i := 213) (by decide +kernel)) (by decide +kernel)), fun _ => rfl⟩⟩
theorem fp_Course_51 : zw_FP R_Course 51 0 6 (.array (.array .int)) true := ⟨R_Course, T_Course, 15, ty_Course, rfl, by decide, ly_Course, ty_Course_ok, rfl, nm_Course, rfl, Or.inl ⟨(zw_in (List.mem_of_getElem? (i := 215) (by decide +kernel)) (by decide +kernel)), fun _ => rfl⟩⟩
theorem fp_Course_54 : zw_FP R_Course 54 0 7 (.array .int) true := ⟨R_Course, T_Course, 15, ty_Course, rfl, by decide, ly_Course, ty_Course_ok, rfl, nm_Course, rfl, Or.inl ⟨(zw_in (List.mem_of_getElem? (i := 217) (by decide +kernel)) (by decide +kernel)), fun _ => rfl⟩⟩
theorem fp_Crew_9 : zw_FP R_Crew 9 1 0 (.array .int) true := ⟨R_Crew, T_Crew, 3, ty_Crew, rfl, by decide, ly_Crew, ty_Crew_ok, rfl, nm_Crew, rfl, Or.inl ⟨(zw_in (List.mem_of_getElem? (i := 189) (by decide +kernel)) (by decide +kernel)), fun _ => rfl⟩⟩
theorem fp_Crew_15 : zw_FP R_Crew 15 1 1 (.array .int) true := ⟨R_Crew, T_Crew, 3, ty_Crew, rfl, by decide, ly_Crew, ty_Crew_ok, rfl, nm_Crew, rfl, Or.inl ⟨(zw_in (List.mem_of_getElem? (i := 191) (by decide +kernel)) (by decide +kernel)), fun _ => rfl⟩⟩
theorem fp_Failings_9 : zw_FP R_Failings 9 2 0 (.array .int) true := ⟨R_Failings, T_Failings, 6, ty_Failings, rfl, by decide, ly_Failings, ty_Failings_ok, rfl, nm_Failings, rfl, Or.inl ⟨(zw_in (List.mem_of_getElem? (i := 95) (by decide +kernel)) (by decide +kernel)), fun _ => rfl⟩⟩
theorem fp_Failings_15 : zw_FP R_Failings 15 2 1 (.array .int) true := ⟨R_Failings, T_Failings, 6, ty_Failings, rfl, by decide, ly_Failings, ty_Failings_ok, rfl, nm_Failings, rfl, Or.inl ⟨(zw_in (List.mem_of_getElem? (i := 96) (by decide +kernel)) (by decide +kernel)), fun _ => rfl⟩⟩
theorem fp_Failings_18 : zw_FP R_Failings 18 2 2 (.array .int) true := ⟨R_Failings, T_Failings, 6, ty_Failings, rfl, by decide, ly_Failings, ty_Failings_ok, rfl, nm_Failings, rfl, Or.inl ⟨(zw_in (List.mem_of_getElem? (i := 97) (by decide +kernel)) (by decide +kernel)), fun _ => rfl⟩⟩
theorem fp_Failings_21 : zw_FP R_Failings 21 2 3 (.array .int) true := ⟨R_Failings, T_Failings, 6, ty_Failings, rfl, by decide, ly_Failings, ty_Failings_ok, rfl, nm_Failings, rfl, Or.inl ⟨(zw_in (List.mem_of_getElem? (i := 98) (by decide +kernel)) (by decide +kernel)), fun _ => rfl⟩⟩
theorem fp_Failings_24 : zw_FP R_Failings 24 2 4 (.array .int) true := ⟨R_Failings, T_Failings, 6, ty_Failings, rfl, by decide, ly_Failings, ty_Failings_ok, rfl, nm_Failings, rfl, Or.inl ⟨(zw_in (List.mem_of_getElem? (i := 99) (by decide +kernel)) (by decide +kernel)), fun _ => rfl⟩⟩
theorem fp_Line_9 : zw_FP R_Line 9 3 0 (.array .int) true := ⟨R_Line, T_Line, 3, ty_Line, rfl, by decide, ly_Line, ty_Line_ok, rfl, nm_Line, rfl, Or.inl ⟨(zw_in (List.mem_of_getElem? (i := 173) (by decide +kernel)) (by decide +kernel)), fun _ => rfl⟩⟩
theorem fp_Model_7 : zw_FP R_Model 7 7 3 (.array .int) true := ⟨R_Model, T_Model, 36, ty_Model, rfl, by decide, ly_Model, ty_Model_ok, rfl, nm_Model, rfl, Or.inl ⟨(zw_in (List.mem_of_getElem? (i := 621) (by decide +kernel)) (by decide +kernel)), fun _ => rfl⟩⟩
theorem fp_Model_13 : zw_FP R_Model 13 7 4 (.array .int) true := ⟨R_Model, T_Model, 36, ty_Model, rfl, by decide, ly_Model, ty_Model_ok, rfl, nm_Model, rfl, Or.inl ⟨(zw_in (List.mem_of_getElem? (i := 622) (by decide +kernel)) (by decide +kernel)), fun _ => rfl⟩⟩
theorem fp_Model_16 : zw_FP R_Model 16 7 5 (.array .long) true := ⟨R_Model, T_Model, 36, ty_Model, rfl, by decide, ly_Model, ty_Model_ok, rfl, nm_Model, rfl, Or.inl ⟨(zw_in (List.mem_of_getElem? (i := 623) (by decide +kernel)) (by decide +kernel)), fun _ => rfl⟩⟩
theorem fp_Model_20 : zw_FP R_Model 20 7 6 (.array .int) true := ⟨R_Model, T_Model, 36, ty_Model, rfl, by decide, ly_Model, ty_Model_ok, rfl, nm_Model, rfl, Or.inl ⟨(zw_in (List.mem_of_getElem? (i := 624) (by decide +kernel)) (by decide +kernel)), fun _ => rfl⟩⟩
theorem fp_Model_23 : zw_FP R_Model 23 7 7 (.array .int) true := ⟨R_Model, T_Model, 36, ty_Model, rfl, by decide, ly_Model, ty_Model_ok, rfl, nm_Model, rfl, Or.inl ⟨(zw_in (List.mem_of_getElem? (i := 625) (by decide +kernel)) (by decide +kernel)), fun _ => rfl⟩⟩
theorem fp_Model_26 : zw_FP R_Model 26 7 8 (.array .int) true := ⟨R_Model, T_Model, 36, ty_Model, rfl, by decide, ly_Model, ty_Model_ok, rfl, nm_Model, rfl, Or.inl ⟨(zw_in (List.mem_of_getElem? (i := 626) (by decide +kernel)) (by decide +kernel)), fun _ => rfl⟩⟩
theorem fp_Model_29 : zw_FP R_Model 29 7 9 (.array .int) true := ⟨R_Model, T_Model, 36, ty_Model, rfl, by decide, ly_Model, ty_Model_ok, rfl, nm_Model, rfl, Or.inl ⟨(zw_in (List.mem_of_getElem? (i := 627) (by decide +kernel)) (by decide +kernel)), fun _ => rfl⟩⟩
theorem fp_Model_32 : zw_FP R_Model 32 7 10 (.array .int) true := ⟨R_Model, T_Model, 36, ty_Model, rfl, by decide, ly_Model, ty_Model_ok, rfl, nm_Model, rfl, Or.inl ⟨(zw_in (List.mem_of_getElem? (i := 628) (by decide +kernel)) (by decide +kernel)), fun _ => rfl⟩⟩
theorem fp_Model_35 : zw_FP R_Model 35 7 11 (.array .int) true := ⟨R_Model, T_Model, 36, ty_Model, rfl, by decide, ly_Model, ty_Model_ok, rfl, nm_Model, rfl, Or.inl ⟨(zw_in (List.mem_of_getElem? (i := 629) (by decide +kernel)) (by decide +kernel)), fun _ => rfl⟩⟩
theorem fp_Model_38 : zw_FP R_Model 38 7 12 (.array .int) true := ⟨R_Model, T_Model, 36, ty_Model, rfl, by decide, ly_Model, ty_Model_ok, rfl, nm_Model, rfl, Or.inl ⟨(zw_in (List.mem_of_getElem? (i := 630) (by decide +kernel)) (by decide +kernel)), fun _ => rfl⟩⟩
theorem fp_Model_41 : zw_FP R_Model 41 7 13 (.array .int) true := ⟨R_Model, T_Model, 36, ty_Model, rfl, by decide, ly_Model, ty_Model_ok, rfl, nm_Model, rfl, Or.inl ⟨(zw_in (List.mem_of_getElem? (i := 631) (by decide +kernel)) (by decide +kernel)), fun _ => rfl⟩⟩
theorem fp_Model_44 : zw_FP R_Model 44 7 14 (.array .int) true := ⟨R_Model, T_Model, 36, ty_Model, rfl, by decide, ly_Model, ty_Model_ok, rfl, nm_Model, rfl, Or.inl ⟨(zw_in (List.mem_of_getElem? (i := 632) (by decide +kernel)) (by decide +kernel)), fun _ => rfl⟩⟩
theorem fp_Model_47 : zw_FP R_Model 47 7 17 (.array .boolean) true := ⟨R_Model, T_Model, 36, ty_Model, rfl, by decide, ly_Model, ty_Model_ok, rfl, nm_Model, rfl, Or.inl ⟨(zw_in (List.mem_of_getElem? (i := 635) (by decide +kernel)) (by decide +kernel)), fun _ => rfl⟩⟩
theorem fp_Model_51 : zw_FP R_Model 51 7 18 (.array .long) true := ⟨R_Model, T_Model, 36, ty_Model, rfl, by decide, ly_Model, ty_Model_ok, rfl, nm_Model, rfl, Or.inl ⟨(zw_in (List.mem_of_getElem? (i := 636) (by decide +kernel)) (by decide +kernel)), fun _ => rfl⟩⟩
theorem fp_Model_54 : zw_FP R_Model 54 7 19 (.array .long) true := ⟨R_Model, T_Model, 36, ty_Model, rfl, by decide, ly_Model, ty_Model_ok, rfl, nm_Model, rfl, Or.inl ⟨(zw_in (List.mem_of_getElem? (i := 637) (by decide +kernel)) (by decide +kernel)), fun _ => rfl⟩⟩
theorem fp_Model_57 : zw_FP R_Model 57 7 20 (.array .int) true := ⟨R_Model, T_Model, 36, ty_Model, rfl, by decide, ly_Model, ty_Model_ok, rfl, nm_Model, rfl, Or.inl ⟨(zw_in (List.mem_of_getElem? (i := 638) (by decide +kernel)) (by decide +kernel)), fun _ => rfl⟩⟩
theorem fp_Model_60 : zw_FP R_Model 60 7 21 (.array .int) true := ⟨R_Model, T_Model, 36, ty_Model, rfl, by decide, ly_Model, ty_Model_ok, rfl, nm_Model, rfl, Or.inl ⟨(zw_in (List.mem_of_getElem? (i := 639) (by decide +kernel)) (by decide +kernel)), fun _ => rfl⟩⟩
theorem fp_Model_63 : zw_FP R_Model 63 7 22 (.array .int) true := ⟨R_Model, T_Model, 36, ty_Model, rfl, by decide, ly_Model, ty_Model_ok, rfl, nm_Model, rfl, Or.inl ⟨(zw_in (List.mem_of_getElem? (i := 640) (by decide +kernel)) (by decide +kernel)), fun _ => rfl⟩⟩
theorem fp_Model_66 : zw_FP R_Model 66 7 26 (.array .int) true := ⟨R_Model, T_Model, 36, ty_Model, rfl, by decide, ly_Model, ty_Model_ok, rfl, nm_Model, rfl, Or.inl ⟨(zw_in (List.mem_of_getElem? (i := 644) (by decide +kernel)) (by decide +kernel)), fun _ => rfl⟩⟩
theorem fp_Model_69 : zw_FP R_Model 69 7 27 (.array .int) true := ⟨R_Model, T_Model, 36, ty_Model, rfl, by decide, ly_Model, ty_Model_ok, rfl, nm_Model, rfl, Or.inl ⟨(zw_in (List.mem_of_getElem? (i := 645) (by decide +kernel)) (by decide +kernel)), fun _ => rfl⟩⟩
theorem fp_Model_72 : zw_FP R_Model 72 7 28 (.array .int) true := ⟨R_Model, T_Model, 36, ty_Model, rfl, by decide, ly_Model, ty_Model_ok, rfl, nm_Model, rfl, Or.inl ⟨(zw_in (List.mem_of_getElem? (i := 646) (by decide +kernel)) (by decide +kernel)), fun _ => rfl⟩⟩
theorem fp_Model_75 : zw_FP R_Model 75 7 1 (.int) true := ⟨R_Model, T_Model, 36, ty_Model, rfl, by decide, ly_Model, ty_Model_ok, rfl, nm_Model, rfl, Or.inl ⟨(zw_in (List.mem_of_getElem? (i := 619) (by decide +kernel)) (by decide +kernel)), fun _ => rfl⟩⟩
theorem fp_Model_79 : zw_FP R_Model 79 7 2 (.int) true := ⟨R_Model, T_Model, 36, ty_Model, rfl, by decide, ly_Model, ty_Model_ok, rfl, nm_Model, rfl, Or.inl ⟨(zw_in (List.mem_of_getElem? (i := 620) (by decide +kernel)) (by decide +kernel)), fun _ => rfl⟩⟩
theorem fp_Needs_9 : zw_FP R_Needs 9 4 0 (.array .int) true := ⟨R_Needs, T_Needs, 4, ty_Needs, rfl, by decide, ly_Needs, ty_Needs_ok, rfl, nm_Needs, rfl, Or.inl ⟨(zw_in (List.mem_of_getElem? (i := 72) (by decide +kernel)) (by decide +kernel)), fun _ => rfl⟩⟩
theorem fp_Needs_17 : zw_FP R_Needs 17 4 1 (.array (.array .int)) true := ⟨R_Needs, T_Needs, 4, ty_Needs, rfl, by decide, ly_Needs, ty_Needs_ok, rfl, nm_Needs, rfl, Or.inl ⟨(zw_in (List.mem_of_getElem? (i := 75) (by decide +kernel)) (by decide +kernel)), fun _ => rfl⟩⟩
theorem fp_Needs_20 : zw_FP R_Needs 20 4 2 (.array (.array .int)) true := ⟨R_Needs, T_Needs, 4, ty_Needs, rfl, by decide, ly_Needs, ty_Needs_ok, rfl, nm_Needs, rfl, Or.inl ⟨(zw_in (List.mem_of_getElem? (i := 76) (by decide +kernel)) (by decide +kernel)), fun _ => rfl⟩⟩
theorem fp_Needs_23 : zw_FP R_Needs 23 4 3 (.array (.array .int)) true := ⟨R_Needs, T_Needs, 4, ty_Needs, rfl, by decide, ly_Needs, ty_Needs_ok, rfl, nm_Needs, rfl, Or.inl ⟨(zw_in (List.mem_of_getElem? (i := 77) (by decide +kernel)) (by decide +kernel)), fun _ => rfl⟩⟩
theorem fp_Plan_9 : zw_FP R_Plan 9 5 0 (.int) true := ⟨R_Plan, T_Plan, 8, ty_Plan, rfl, by decide, ly_Plan, ty_Plan_ok, rfl, nm_Plan, rfl, Or.inl ⟨(zw_in (List.mem_of_getElem? (i := 120) (by decide +kernel)) (by decide +kernel)), fun _ => rfl⟩⟩
theorem fp_Plan_15 : zw_FP R_Plan 15 5 1 (.int) true := ⟨R_Plan, T_Plan, 8, ty_Plan, rfl, by decide, ly_Plan, ty_Plan_ok, rfl, nm_Plan, rfl, Or.inl ⟨(zw_in (List.mem_of_getElem? (i := 123) (by decide +kernel)) (by decide +kernel)), fun _ => rfl⟩⟩
theorem fp_Plan_18 : zw_FP R_Plan 18 5 2 (.array .int) true := ⟨R_Plan, T_Plan, 8, ty_Plan, rfl, by decide, ly_Plan, ty_Plan_ok, rfl, nm_Plan, rfl, Or.inl ⟨(zw_in (List.mem_of_getElem? (i := 126) (by decide +kernel)) (by decide +kernel)), fun _ => rfl⟩⟩
theorem fp_Plan_22 : zw_FP R_Plan 22 5 3 (.array .int) true := ⟨R_Plan, T_Plan, 8, ty_Plan, rfl, by decide, ly_Plan, ty_Plan_ok, rfl, nm_Plan, rfl, Or.inl ⟨(zw_in (List.mem_of_getElem? (i := 129) (by decide +kernel)) (by decide +kernel)), fun _ => rfl⟩⟩
theorem fp_Plan_25 : zw_FP R_Plan 25 5 4 (.array .long) true := ⟨R_Plan, T_Plan, 8, ty_Plan, rfl, by decide, ly_Plan, ty_Plan_ok, rfl, nm_Plan, rfl, Or.inl ⟨(zw_in (List.mem_of_getElem? (i := 132) (by decide +kernel)) (by decide +kernel)), fun _ => rfl⟩⟩
theorem fp_Plan_34 : zw_FP R_Plan 34 5 5 (.object "TileShares$Needs") true := ⟨R_Plan, T_Plan, 8, ty_Plan, rfl, by decide, ly_Plan, ty_Plan_ok, rfl, nm_Plan, rfl, Or.inl ⟨(zw_in (List.mem_of_getElem? (i := 135) (by decide +kernel)) (by decide +kernel)), fun _ => rfl⟩⟩
theorem fp_Plan_41 : zw_FP R_Plan 41 5 6 (.object "TileShares$Failings") true := ⟨R_Plan, T_Plan, 8, ty_Plan, rfl, by decide, ly_Plan, ty_Plan_ok, rfl, nm_Plan, rfl, Or.inl ⟨(zw_in (List.mem_of_getElem? (i := 138) (by decide +kernel)) (by decide +kernel)), fun _ => rfl⟩⟩
theorem fp_TS_18 : zw_FP R_TS 18 6 0 (.object "TileShares$Plan") true := ⟨R_TS, T_TS, 4, ty_TS, rfl, by decide, ly_TS, ty_TS_ok, rfl, nm_TS, rfl, Or.inl ⟨(zw_in (List.mem_of_getElem? (i := 263) (by decide +kernel)) (by decide +kernel)), fun _ => rfl⟩⟩
theorem fp_TS_27 : zw_FP R_TS 27 6 1 (.object "TileShares$Course") true := ⟨R_TS, T_TS, 4, ty_TS, rfl, by decide, ly_TS, ty_TS_ok, rfl, nm_TS, rfl, Or.inl ⟨(zw_in (List.mem_of_getElem? (i := 264) (by decide +kernel)) (by decide +kernel)), fun _ => rfl⟩⟩
theorem fp_TS_31 : zw_FP R_TS 31 6 2 (.array .boolean) true := ⟨R_TS, T_TS, 4, ty_TS, rfl, by decide, ly_TS, ty_TS_ok, rfl, nm_TS, rfl, Or.inl ⟨(zw_in (List.mem_of_getElem? (i := 265) (by decide +kernel)) (by decide +kernel)), fun _ => rfl⟩⟩
theorem fp_TS_35 : zw_FP R_TS 35 6 3 (.array .long) true := ⟨R_TS, T_TS, 4, ty_TS, rfl, by decide, ly_TS, ty_TS_ok, rfl, nm_TS, rfl, Or.inl ⟨(zw_in (List.mem_of_getElem? (i := 266) (by decide +kernel)) (by decide +kernel)), fun _ => rfl⟩⟩
theorem mv_Course_23 : zw_MI R_Course 23 Y_Line_init 1 := ⟨rfl, rfl, Or.inl (zw_in (List.mem_of_getElem? (i := 169) (by decide +kernel)) (by decide +kernel)), (zw_in (List.mem_of_getElem? (i := 170) (by decide +kernel)) (by decide +kernel)), (zw_in (List.mem_of_getElem? (i := 171) (by decide +kernel)) (by decide +kernel)), (zw_in (List.mem_of_getElem? (i := 31) (by decide +kernel)) (by decide +kernel)), by decide +kernel, by decide +kernel⟩
theorem mv_Course_32 : zw_MI R_Course 32 Y_Crew_init 0 := ⟨rfl, rfl, Or.inr ⟨"TileShares", (zw_in (List.mem_of_getElem? (i := 185) (by decide +kernel)) (by decide +kernel))⟩, (zw_in (List.mem_of_getElem? (i := 186) (by decide +kernel)) (by decide +kernel)), (zw_in (List.mem_of_getElem? (i := 187) (by decide +kernel)) (by decide +kernel)), (zw_in (List.mem_of_getElem? (i := 32) (by decide +kernel)) (by decide +kernel)), by decide +kernel, by decide +kernel⟩
theorem mv_Model_82 : zw_MV R_Model 82 Y_Model_clear R_Model 0 := ⟨Or.inl (zw_in (List.mem_of_getElem? (i := 614) (by decide +kernel)) (by decide +kernel)), (zw_in (List.mem_of_getElem? (i := 615) (by decide +kernel)) (by decide +kernel)), (zw_in (List.mem_of_getElem? (i := 616) (by decide +kernel)) (by decide +kernel)), (zw_in (List.mem_of_getElem? (i := 617) (by decide +kernel)) (by decide +kernel)), (zw_in (List.mem_of_getElem? (i := 33) (by decide +kernel)) (by decide +kernel)), by decide +kernel, by decide +kernel⟩
theorem mv_Plan_31 : zw_MI R_Plan 31 Y_Needs_init 1 := ⟨rfl, rfl, Or.inl (zw_in (List.mem_of_getElem? (i := 66) (by decide +kernel)) (by decide +kernel)), (zw_in (List.mem_of_getElem? (i := 67) (by decide +kernel)) (by decide +kernel)), (zw_in (List.mem_of_getElem? (i := 68) (by decide +kernel)) (by decide +kernel)), (zw_in (List.mem_of_getElem? (i := 28) (by decide +kernel)) (by decide +kernel)), by decide +kernel, by decide +kernel⟩
theorem mv_Plan_40 : zw_MI R_Plan 40 Y_Failings_init 0 := ⟨rfl, rfl, Or.inr ⟨"TileShares", (zw_in (List.mem_of_getElem? (i := 91) (by decide +kernel)) (by decide +kernel))⟩, (zw_in (List.mem_of_getElem? (i := 92) (by decide +kernel)) (by decide +kernel)), (zw_in (List.mem_of_getElem? (i := 93) (by decide +kernel)) (by decide +kernel)), (zw_in (List.mem_of_getElem? (i := 29) (by decide +kernel)) (by decide +kernel)), by decide +kernel, by decide +kernel⟩
theorem mv_Plan_45 : zw_MV R_Plan 45 Y_Plan_reset R_Plan 0 := ⟨Or.inl (zw_in (List.mem_of_getElem? (i := 116) (by decide +kernel)) (by decide +kernel)), (zw_in (List.mem_of_getElem? (i := 117) (by decide +kernel)) (by decide +kernel)), (zw_in (List.mem_of_getElem? (i := 118) (by decide +kernel)) (by decide +kernel)), (zw_in (List.mem_of_getElem? (i := 119) (by decide +kernel)) (by decide +kernel)), (zw_in (List.mem_of_getElem? (i := 27) (by decide +kernel)) (by decide +kernel)), by decide +kernel, by decide +kernel⟩
theorem mv_TS_9 : zw_MS R_TS 9 Y_TS_nearest 3 := ⟨Or.inl (zw_in (List.mem_of_getElem? (i := 49) (by decide +kernel)) (by decide +kernel)), (zw_in (List.mem_of_getElem? (i := 50) (by decide +kernel)) (by decide +kernel)), (zw_in (List.mem_of_getElem? (i := 51) (by decide +kernel)) (by decide +kernel)), (zw_in (List.mem_of_getElem? (i := 25) (by decide +kernel)) (by decide +kernel)), by decide +kernel, by decide +kernel⟩
theorem mv_TS_15 : zw_MI R_TS 15 Y_Plan_init 2 := ⟨rfl, rfl, Or.inl (zw_in (List.mem_of_getElem? (i := 60) (by decide +kernel)) (by decide +kernel)), (zw_in (List.mem_of_getElem? (i := 61) (by decide +kernel)) (by decide +kernel)), (zw_in (List.mem_of_getElem? (i := 62) (by decide +kernel)) (by decide +kernel)), (zw_in (List.mem_of_getElem? (i := 27) (by decide +kernel)) (by decide +kernel)), by decide +kernel, by decide +kernel⟩
theorem mv_TS_24 : zw_MI R_TS 24 Y_Course_init 1 := ⟨rfl, rfl, Or.inl (zw_in (List.mem_of_getElem? (i := 163) (by decide +kernel)) (by decide +kernel)), (zw_in (List.mem_of_getElem? (i := 164) (by decide +kernel)) (by decide +kernel)), (zw_in (List.mem_of_getElem? (i := 165) (by decide +kernel)) (by decide +kernel)), (zw_in (List.mem_of_getElem? (i := 30) (by decide +kernel)) (by decide +kernel)), by decide +kernel, by decide +kernel⟩
def zoL (n : Nat) : List Nat := [0, 1, 5, 10 + 3 * n, 17 + 3 * n, 16 + 3 * n, 19 + 3 * n, 2, 3, 4, 6, 7, 8 + 1 * n, 9 + 2 * n, 11 + 3 * n, 12 + 3 * n, 13 + 3 * n, 14 + 3 * n, 15 + 3 * n, 0, 27 + 5 * n, 28 + 5 * n, 18 + 3 * n, 22 + 3 * n, 23 + 3 * n, 24 + 4 * n, 25 + 4 * n, 26 + 5 * n, 20 + 3 * n, 21 + 3 * n, 51 + 5 * n, 0, 29 + 5 * n, 30 + 5 * n, 31 + 5 * n, 32 + 5 * n, 33 + 5 * n, 34 + 5 * n, 35 + 5 * n, 36 + 5 * n, 37 + 5 * n, 38 + 5 * n, 39 + 5 * n, 40 + 5 * n, 41 + 5 * n, 42 + 5 * n, 43 + 5 * n, 44 + 5 * n, 45 + 5 * n, 46 + 5 * n, 47 + 5 * n, 48 + 5 * n, 49 + 5 * n, 50 + 5 * n]
def zoR (n : Nat) : List Nat := [8, 9 + 1 * n, 10 + 2 * n, 24 + 3 * n, 26 + 4 * n]
/-- where each cell lies, the first of them at z0 -/
def zo (n z0 k : Nat) : Nat := if k < 64 then z0 + (zoL n).getD k 0 else z0 + ((zoR n).getD ((k - 64) / 16) 0 + (k - 64) % 16)
theorem zo_0 (n z0 : Nat) : zo n z0 0 = z0 + (0) := rfl
theorem zo_1 (n z0 : Nat) : zo n z0 1 = z0 + (1) := rfl
theorem zo_2 (n z0 : Nat) : zo n z0 2 = z0 + (5) := rfl
theorem zo_3 (n z0 : Nat) : zo n z0 3 = z0 + (10 + 3 * n) := rfl
theorem zo_4 (n z0 : Nat) : zo n z0 4 = z0 + (17 + 3 * n) := rfl
theorem zo_5 (n z0 : Nat) : zo n z0 5 = z0 + (16 + 3 * n) := rfl
theorem zo_6 (n z0 : Nat) : zo n z0 6 = z0 + (19 + 3 * n) := rfl
theorem zo_7 (n z0 : Nat) : zo n z0 7 = z0 + (2) := rfl
theorem zo_8 (n z0 : Nat) : zo n z0 8 = z0 + (3) := rfl
theorem zo_9 (n z0 : Nat) : zo n z0 9 = z0 + (4) := rfl
theorem zo_10 (n z0 : Nat) : zo n z0 10 = z0 + (6) := rfl
theorem zo_11 (n z0 : Nat) : zo n z0 11 = z0 + (7) := rfl
theorem zo_12 (n z0 : Nat) : zo n z0 12 = z0 + (8 + 1 * n) := rfl
theorem zo_13 (n z0 : Nat) : zo n z0 13 = z0 + (9 + 2 * n) := rfl
theorem zo_14 (n z0 : Nat) : zo n z0 14 = z0 + (11 + 3 * n) := rfl
theorem zo_15 (n z0 : Nat) : zo n z0 15 = z0 + (12 + 3 * n) := rfl
theorem zo_16 (n z0 : Nat) : zo n z0 16 = z0 + (13 + 3 * n) := rfl
theorem zo_17 (n z0 : Nat) : zo n z0 17 = z0 + (14 + 3 * n) := rfl
theorem zo_18 (n z0 : Nat) : zo n z0 18 = z0 + (15 + 3 * n) := rfl
theorem zo_20 (n z0 : Nat) : zo n z0 20 = z0 + (27 + 5 * n) := rfl
theorem zo_21 (n z0 : Nat) : zo n z0 21 = z0 + (28 + 5 * n) := rfl
theorem zo_22 (n z0 : Nat) : zo n z0 22 = z0 + (18 + 3 * n) := rfl
theorem zo_23 (n z0 : Nat) : zo n z0 23 = z0 + (22 + 3 * n) := rfl
theorem zo_24 (n z0 : Nat) : zo n z0 24 = z0 + (23 + 3 * n) := rfl
theorem zo_25 (n z0 : Nat) : zo n z0 25 = z0 + (24 + 4 * n) := rfl
theorem zo_26 (n z0 : Nat) : zo n z0 26 = z0 + (25 + 4 * n) := rfl
theorem zo_27 (n z0 : Nat) : zo n z0 27 = z0 + (26 + 5 * n) := rfl
theorem zo_28 (n z0 : Nat) : zo n z0 28 = z0 + (20 + 3 * n) := rfl
theorem zo_29 (n z0 : Nat) : zo n z0 29 = z0 + (21 + 3 * n) := rfl
theorem zo_30 (n z0 : Nat) : zo n z0 30 = z0 + (51 + 5 * n) := rfl
theorem zo_32 (n z0 : Nat) : zo n z0 32 = z0 + (29 + 5 * n) := rfl
theorem zo_33 (n z0 : Nat) : zo n z0 33 = z0 + (30 + 5 * n) := rfl
theorem zo_34 (n z0 : Nat) : zo n z0 34 = z0 + (31 + 5 * n) := rfl
theorem zo_35 (n z0 : Nat) : zo n z0 35 = z0 + (32 + 5 * n) := rfl
theorem zo_36 (n z0 : Nat) : zo n z0 36 = z0 + (33 + 5 * n) := rfl
theorem zo_37 (n z0 : Nat) : zo n z0 37 = z0 + (34 + 5 * n) := rfl
theorem zo_38 (n z0 : Nat) : zo n z0 38 = z0 + (35 + 5 * n) := rfl
theorem zo_39 (n z0 : Nat) : zo n z0 39 = z0 + (36 + 5 * n) := rfl
theorem zo_40 (n z0 : Nat) : zo n z0 40 = z0 + (37 + 5 * n) := rfl
theorem zo_41 (n z0 : Nat) : zo n z0 41 = z0 + (38 + 5 * n) := rfl
theorem zo_42 (n z0 : Nat) : zo n z0 42 = z0 + (39 + 5 * n) := rfl
theorem zo_43 (n z0 : Nat) : zo n z0 43 = z0 + (40 + 5 * n) := rfl
theorem zo_44 (n z0 : Nat) : zo n z0 44 = z0 + (41 + 5 * n) := rfl
theorem zo_45 (n z0 : Nat) : zo n z0 45 = z0 + (42 + 5 * n) := rfl
theorem zo_46 (n z0 : Nat) : zo n z0 46 = z0 + (43 + 5 * n) := rfl
theorem zo_47 (n z0 : Nat) : zo n z0 47 = z0 + (44 + 5 * n) := rfl
theorem zo_48 (n z0 : Nat) : zo n z0 48 = z0 + (45 + 5 * n) := rfl
theorem zo_49 (n z0 : Nat) : zo n z0 49 = z0 + (46 + 5 * n) := rfl
theorem zo_50 (n z0 : Nat) : zo n z0 50 = z0 + (47 + 5 * n) := rfl
theorem zo_51 (n z0 : Nat) : zo n z0 51 = z0 + (48 + 5 * n) := rfl
theorem zo_52 (n z0 : Nat) : zo n z0 52 = z0 + (49 + 5 * n) := rfl
theorem zo_53 (n z0 : Nat) : zo n z0 53 = z0 + (50 + 5 * n) := rfl
theorem zo_r0 {n z0 i : Nat} (h : i < 16) : zo n z0 (64 + i) = z0 + (8 + i) := by
  unfold zo
  rw [if_neg (by omega), show (64 + i - 64) / 16 = 0 by omega, show (64 + i - 64) % 16 = i by omega]
  rfl
theorem zo_r1 {n z0 i : Nat} (h : i < 16) : zo n z0 (80 + i) = z0 + (9 + 1 * n + i) := by
  unfold zo
  rw [if_neg (by omega), show (80 + i - 64) / 16 = 1 by omega, show (80 + i - 64) % 16 = i by omega]
  rfl
theorem zo_r2 {n z0 i : Nat} (h : i < 16) : zo n z0 (96 + i) = z0 + (10 + 2 * n + i) := by
  unfold zo
  rw [if_neg (by omega), show (96 + i - 64) / 16 = 2 by omega, show (96 + i - 64) % 16 = i by omega]
  rfl
theorem zo_r3 {n z0 i : Nat} (h : i < 16) : zo n z0 (112 + i) = z0 + (24 + 3 * n + i) := by
  unfold zo
  rw [if_neg (by omega), show (112 + i - 64) / 16 = 3 by omega, show (112 + i - 64) % 16 = i by omega]
  rfl
theorem zo_r4 {n z0 i : Nat} (h : i < 16) : zo n z0 (128 + i) = z0 + (26 + 4 * n + i) := by
  unfold zo
  rw [if_neg (by omega), show (128 + i - 64) / 16 = 4 by omega, show (128 + i - 64) % 16 = i by omega]
  rfl
def shP (n k : Nat) : Option zw_Sp := if k ∈ [1, 2, 3, 7, 8, 9, 10] then shX n k else none
theorem zw_dfl {N : Nat} {fs : List (Nat × Nat)} {ty0 : Nat → FieldType} (h1 : ∀ j, j < N → fs[j]? = some (fs.getD j (3, 0))) (h2 : ∀ j, j < N → (fs.getD j (3, 0)).1 ≠ 2) (h3 : ∀ j, j < N → defaultValue (ty0 j) = zw_fv (fun _ => 0) 0 0 (fs.getD j (3, 0))) : ∀ j, j < N → ∃ q : Nat × Nat, fs[j]? = some q ∧ q.1 ≠ 2 ∧ defaultValue (ty0 j) = zw_fv (fun _ => 0) 0 0 q := fun j hj => ⟨_, h1 j hj, h2 j hj, h3 j hj⟩
theorem zo_nn {n : Nat} (hn : n ≤ 16) : n * n ≤ 256 := Nat.mul_le_mul hn hn

theorem p_reset_off1 {n a b : Nat} (h7 : a ≠ 7) (h8 : a ≠ 8) (h10 : a ≠ 10) (h3 : a ≠ 3) (h1 : a ≠ 1 ∨ b ≠ 7) {mi : zw_I} {ml : zw_L} {k : Int32} {f : Nat} : (p_reset n f k mi ml).1 a b = mi a b := by
  induction f generalizing k mi ml with
  | zero => rfl
  | succ f ih =>
    rw [p_reset]
    split
    · show zw_up (zw_up mi 3 5 0) 1 7 (-1) a b = mi a b
      rw [zw_up_off _ _ h1, zw_up_ne1 _ _ _ h3]
    · rw [ih, zw_up_ne1 _ _ _ h10, zw_up_ne1 _ _ _ h8, zw_up_ne1 _ _ _ h7]
theorem p_reset_off2 {n a b : Nat} (h9 : a ≠ 9) {mi : zw_I} {ml : zw_L} {k : Int32} {f : Nat} : (p_reset n f k mi ml).2 a b = ml a b := by
  induction f generalizing k mi ml with
  | zero => rfl
  | succ f ih =>
    rw [p_reset]
    split
    · rfl
    · rw [ih, zw_up_ne1 _ _ _ h9]
def q_near (x h : Int32) : Int32 := if 1 ≤ x then (if x ≤ h then x else h) else 1
def q_mk (x y : Int32) (mi : zw_I) : zw_I := zw_up (zw_up mi 32 1 (q_near x 16)) 32 2 (q_near y 1000)

theorem nl_Course_15 : zw_NL R_Course 15 3 3 [(3, 0), (0, 0), (0, 0)] := ⟨R_Line, T_Line, ty_Line, rfl, ly_Line, ty_Line_ok, (zw_in (List.mem_of_getElem? (i := 167) (by decide +kernel)) (by decide +kernel)), (zw_in (List.mem_of_getElem? (i := 168) (by decide +kernel)) (by decide +kernel)), (zw_in (List.mem_of_getElem? (i := 31) (by decide +kernel)) (by decide +kernel)), zw_dfl (by decide +kernel) (by decide +kernel) (by decide +kernel)⟩
theorem nl_Course_30 : zw_NL R_Course 30 1 3 [(3, 0), (3, 0), (0, 0)] := ⟨R_Crew, T_Crew, ty_Crew, rfl, ly_Crew, ty_Crew_ok, (zw_in (List.mem_of_getElem? (i := 183) (by decide +kernel)) (by decide +kernel)), (zw_in (List.mem_of_getElem? (i := 184) (by decide +kernel)) (by decide +kernel)), (zw_in (List.mem_of_getElem? (i := 32) (by decide +kernel)) (by decide +kernel)), zw_dfl (by decide +kernel) (by decide +kernel) (by decide +kernel)⟩
theorem nl_Plan_29 : zw_NL R_Plan 29 4 4 [(3, 0), (3, 0), (3, 0), (3, 0)] := ⟨R_Needs, T_Needs, ty_Needs, rfl, ly_Needs, ty_Needs_ok, (zw_in (List.mem_of_getElem? (i := 64) (by decide +kernel)) (by decide +kernel)), (zw_in (List.mem_of_getElem? (i := 65) (by decide +kernel)) (by decide +kernel)), (zw_in (List.mem_of_getElem? (i := 28) (by decide +kernel)) (by decide +kernel)), zw_dfl (by decide +kernel) (by decide +kernel) (by decide +kernel)⟩
theorem nl_Plan_38 : zw_NL R_Plan 38 2 6 [(3, 0), (3, 0), (3, 0), (3, 0), (3, 0), (0, 0)] := ⟨R_Failings, T_Failings, ty_Failings, rfl, ly_Failings, ty_Failings_ok, (zw_in (List.mem_of_getElem? (i := 89) (by decide +kernel)) (by decide +kernel)), (zw_in (List.mem_of_getElem? (i := 90) (by decide +kernel)) (by decide +kernel)), (zw_in (List.mem_of_getElem? (i := 29) (by decide +kernel)) (by decide +kernel)), zw_dfl (by decide +kernel) (by decide +kernel) (by decide +kernel)⟩
theorem nl_TS_13 : zw_NL R_TS 13 5 8 [(0, 0), (0, 0), (3, 0), (3, 0), (3, 0), (3, 0), (3, 0), (0, 0)] := ⟨R_Plan, T_Plan, ty_Plan, rfl, ly_Plan, ty_Plan_ok, (zw_in (List.mem_of_getElem? (i := 58) (by decide +kernel)) (by decide +kernel)), (zw_in (List.mem_of_getElem? (i := 59) (by decide +kernel)) (by decide +kernel)), (zw_in (List.mem_of_getElem? (i := 27) (by decide +kernel)) (by decide +kernel)), zw_dfl (by decide +kernel) (by decide +kernel) (by decide +kernel)⟩
theorem nl_TS_22 : zw_NL R_TS 22 0 15 [(3, 0), (3, 0), (3, 0), (3, 0), (3, 0), (3, 0), (3, 0), (3, 0), (0, 0), (0, 0), (0, 0), (0, 0), (0, 0), (0, 0), (0, 0)] := ⟨R_Course, T_Course, ty_Course, rfl, ly_Course, ty_Course_ok, (zw_in (List.mem_of_getElem? (i := 161) (by decide +kernel)) (by decide +kernel)), (zw_in (List.mem_of_getElem? (i := 162) (by decide +kernel)) (by decide +kernel)), (zw_in (List.mem_of_getElem? (i := 30) (by decide +kernel)) (by decide +kernel)), zw_dfl (by decide +kernel) (by decide +kernel) (by decide +kernel)⟩
theorem kl_Course_41 : Cond.classLink R_Course 41 ("[" ++ (FieldType.array .long).toString) ∈ zw_Tb := (zw_in (List.mem_of_getElem? (i := 203) (by decide +kernel)) (by decide +kernel))
theorem kl_Course_49 : Cond.classLink R_Course 49 ("[" ++ (FieldType.array .int).toString) ∈ zw_Tb := (zw_in (List.mem_of_getElem? (i := 205) (by decide +kernel)) (by decide +kernel))
theorem kl_Needs_15 : Cond.classLink R_Needs 15 ("[" ++ (FieldType.array .int).toString) ∈ zw_Tb := (zw_in (List.mem_of_getElem? (i := 70) (by decide +kernel)) (by decide +kernel))
theorem ko_Course_3 : Cond.methodLink R_Course 3 Lib.objectInit ∈ zw_Tb := (zw_in (List.mem_of_getElem? (i := 166) (by decide +kernel)) (by decide +kernel))
theorem ko_Crew_3 : Cond.methodLink R_Crew 3 Lib.objectInit ∈ zw_Tb := (zw_in (List.mem_of_getElem? (i := 188) (by decide +kernel)) (by decide +kernel))
theorem ko_Failings_3 : Cond.methodLink R_Failings 3 Lib.objectInit ∈ zw_Tb := (zw_in (List.mem_of_getElem? (i := 94) (by decide +kernel)) (by decide +kernel))
theorem ko_Line_3 : Cond.methodLink R_Line 3 Lib.objectInit ∈ zw_Tb := (zw_in (List.mem_of_getElem? (i := 172) (by decide +kernel)) (by decide +kernel))
theorem ko_Model_1 : Cond.methodLink R_Model 1 Lib.objectInit ∈ zw_Tb := (zw_in (List.mem_of_getElem? (i := 613) (by decide +kernel)) (by decide +kernel))
theorem ko_Needs_3 : Cond.methodLink R_Needs 3 Lib.objectInit ∈ zw_Tb := (zw_in (List.mem_of_getElem? (i := 69) (by decide +kernel)) (by decide +kernel))
theorem ko_Plan_3 : Cond.methodLink R_Plan 3 Lib.objectInit ∈ zw_Tb := (zw_in (List.mem_of_getElem? (i := 63) (by decide +kernel)) (by decide +kernel))
theorem ko_TS_1 : Cond.methodLink R_TS 1 Lib.objectInit ∈ zw_Tb := (zw_in (List.mem_of_getElem? (i := 46) (by decide +kernel)) (by decide +kernel))
theorem kv_int : Cond.arrayOver (.array .int) ∈ zw_Tb := (zw_in (List.mem_of_getElem? (i := 71) (by decide +kernel)) (by decide +kernel))
theorem kv_long : Cond.arrayOver (.array .long) ∈ zw_Tb := (zw_in (List.mem_of_getElem? (i := 204) (by decide +kernel)) (by decide +kernel))
theorem kw_boolean : Cond.arrayClass .boolean ∈ zw_Tb := (zw_in (List.mem_of_getElem? (i := 276) (by decide +kernel)) (by decide +kernel))
theorem kw_int : Cond.arrayClass .int ∈ zw_Tb := (zw_in (List.mem_of_getElem? (i := 87) (by decide +kernel)) (by decide +kernel))
theorem kw_long : Cond.arrayClass .long ∈ zw_Tb := (zw_in (List.mem_of_getElem? (i := 88) (by decide +kernel)) (by decide +kernel))
theorem ko_in : Cond.instanceMethod Lib.objectInit ∈ zw_Tb := (zw_in (List.mem_of_getElem? (i := 47) (by decide +kernel)) (by decide +kernel))
theorem ko_co : Cond.code Lib.objectInit { data := #[177] } 1 none ∈ zw_Tb := (zw_in (List.mem_of_getElem? (i := 48) (by decide +kernel)) (by decide +kernel))
set_option maxHeartbeats 4000000 in
set_option maxRecDepth 100000 in
theorem c_Plan_resetP {l : Launch} {D : va_G} {cA : Nat → ClassId} {ad : Nat → Nat} {sh : zw_Sh} {n : Nat} (hn : n ≤ 16) (hs : ∀ (k : Nat) (q : zw_Sp), shP n k = some q → sh k = some q) (z : Nat) (mi : zw_I) (ml : zw_L) (e0 : mi 1 0 = nI n) :
    zc_M l D cA Y_Plan_reset 0 0 0 ad sh sh z [.ref (ad 1)] mi ml none ((p_reset n (n + 1) 0 mi ml).1) ((p_reset n (n + 1) 0 mi ml).2) z := by
  refine zc_enter (own := R_Plan) (by decide) rfl (Nat.le_of_ble_eq_true rfl) ?_
  intro p e s m below meth c X hr hlocks hnm hB ls hl
  have X : zw_C D cA R_Plan prog_7_method_2_code 2 p m c s := X
  have hr : meth.sig.returnType = none := hr
  have hx := X.1
  have hb := X.2.1
  have hl : lv_has ls 2 [(0, .ref (ad 1))] := hl
  have loop : ∀ (f i : Nat) (mi : zw_I) (ml : zw_L) (H : Heap) (locs : List Loc) (ls : Array Slot), i + f = n + 1 → i ≤ n → mi 1 0 = nI n → zw_B D cA ad sh (zw_A ad sh z) s.heap mi ml z H locs → lv_has ls 2 [(1, .int (nI i)), (0, .ref (ad 1))] →
      zc_W l D cA ad sh sh z [.ref (ad 1)] 0 0 0 none ((p_reset n f (nI i) mi ml).1) ((p_reset n f (nI i) mi ml).2) z p e s m below meth c H locs 0 0 (F0 m 2 ls []) := by
    intro f
    induction f with
    | zero =>
      intro i  mi ml H locs ls hi h2 e0 hB hl
      omega
    | succ f ih =>
      intro i  mi ml H locs ls hi h2 e0 hB hl
      rw [p_reset]
      refine lv_iload_n hx hb d_Plan_reset_2 rfl (lv_at hl 0 rfl) ?_
      refine lv_aload_n hx hb d_Plan_reset_3 rfl (lv_at hl 1 rfl) ?_
      refine zw_getI X hB fl_Plan_9 1 (hs 1 _ rfl) rfl d_Plan_reset_4 ?_
      refine lv_icmp_ge (tgt := 48) hx hb d_Plan_reset_7 (by decide) (fun c_7 => ?_) (fun c_7 => ?_)
      · rw [e0] at c_7
        rw [if_pos c_7]
        refine lv_aload_n hx hb d_Plan_reset_48 rfl (lv_at hl 1 rfl) ?_
        refine zw_getR X hB fl_Plan_41 1 (hs 1 _ rfl) rfl d_Plan_reset_49 ?_
        refine lv_iconst (v := 0) hx hb d_Plan_reset_52 (by decide) ?_
        refine zw_putI X hB fp_Plan_51 (fun h => by cases h) 3 (hs 3 _ rfl) rfl d_Plan_reset_53 (fun H locs hB => ?_)
        obtain ⟨mi_1, emi_1⟩ : ∃ y, y = zw_up mi 3 5 0 := ⟨_, rfl⟩
        rw [← emi_1] at hB
        refine lv_aload_n hx hb d_Plan_reset_56 rfl (lv_at hl 1 rfl) ?_
        refine lv_iconst (v := (-1)) hx hb d_Plan_reset_57 (by decide) ?_
        refine zw_putI X hB fp_Plan_53 (fun h => by cases h) 1 (hs 1 _ rfl) rfl d_Plan_reset_58 (fun H locs hB => ?_)
        obtain ⟨mi_2, emi_2⟩ : ∃ y, y = zw_up mi_1 1 7 (-1) := ⟨_, rfl⟩
        rw [← emi_2] at hB
        exact zc_vret X hr hlocks hB (by subst emi_2; subst emi_1; rfl) (by subst emi_2; subst emi_1; rfl) (by subst emi_2; subst emi_1; rfl) d_Plan_reset_61
      · rw [e0] at c_7
        rw [if_neg c_7]
        have hlt : i < n := zn_lt (by omega) c_7
        have hin : vp_in (nI i) n := vp_in_nI hlt (by omega)
        refine lv_aload_n hx hb d_Plan_reset_10 rfl (lv_at hl 1 rfl) ?_
        refine zw_getR X hB fl_Plan_18 1 (hs 1 _ rfl) rfl d_Plan_reset_11 ?_
        refine lv_iload_n hx hb d_Plan_reset_14 rfl (lv_at hl 0 rfl) ?_
        refine lv_iconst (v := 1) hx hb d_Plan_reset_15 (by decide) ?_
        refine zw_iast X hB 7 (hs 7 _ rfl) hin d_Plan_reset_16 (fun H locs hB => ?_)
        obtain ⟨mi_3, emi_3⟩ : ∃ y, y = zw_up mi 7 (nI i).toNatClampNeg 1 := ⟨_, rfl⟩
        rw [← emi_3] at hB
        refine lv_aload_n hx hb d_Plan_reset_17 rfl (lv_at hl 1 rfl) ?_
        refine zw_getR X hB fl_Plan_22 1 (hs 1 _ rfl) rfl d_Plan_reset_18 ?_
        refine lv_iload_n hx hb d_Plan_reset_21 rfl (lv_at hl 0 rfl) ?_
        refine lv_iconst (v := 1) hx hb d_Plan_reset_22 (by decide) ?_
        refine zw_iast X hB 8 (hs 8 _ rfl) hin d_Plan_reset_23 (fun H locs hB => ?_)
        obtain ⟨mi_4, emi_4⟩ : ∃ y, y = zw_up mi_3 8 (nI i).toNatClampNeg 1 := ⟨_, rfl⟩
        rw [← emi_4] at hB
        refine lv_aload_n hx hb d_Plan_reset_24 rfl (lv_at hl 1 rfl) ?_
        refine zw_getR X hB fl_Plan_25 1 (hs 1 _ rfl) rfl d_Plan_reset_25 ?_
        refine lv_iload_n hx hb d_Plan_reset_28 rfl (lv_at hl 0 rfl) ?_
        refine lv_iload_n hx hb d_Plan_reset_29 rfl (lv_at hl 0 rfl) ?_
        refine lv_i2l (v := (nI i).toInt64) hx hb d_Plan_reset_30 rfl ?_
        refine zw_last X hB 9 (hs 9 _ rfl) hin d_Plan_reset_31 (fun H locs hB => ?_)
        obtain ⟨ml_5, eml_5⟩ : ∃ y, y = zw_up ml 9 (nI i).toNatClampNeg ((nI i).toInt64) := ⟨_, rfl⟩
        rw [← eml_5] at hB
        refine lv_aload_n hx hb d_Plan_reset_32 rfl (lv_at hl 1 rfl) ?_
        refine zw_getR X hB fl_Plan_34 1 (hs 1 _ rfl) rfl d_Plan_reset_33 ?_
        refine zw_getR X hB fl_Plan_48 2 (hs 2 _ rfl) rfl d_Plan_reset_36 ?_
        refine lv_iload_n hx hb d_Plan_reset_39 rfl (lv_at hl 0 rfl) ?_
        refine lv_iconst (v := 0) hx hb d_Plan_reset_40 (by decide) ?_
        refine zw_iast X hB 10 (hs 10 _ rfl) hin d_Plan_reset_41 (fun H locs hB => ?_)
        obtain ⟨mi_6, emi_6⟩ : ∃ y, y = zw_up mi_4 10 (nI i).toNatClampNeg 0 := ⟨_, rfl⟩
        rw [← emi_6] at hB
        refine lv_iinc (v := nI (i + 1)) (lv' := [(1, .int (nI (i + 1))), (0, .ref (ad 1))]) hx hb d_Plan_reset_42 hl (k := 0) rfl (nI_1 i) (by decide) rfl (fun ls hl => ?_)
        refine lv_goto (tgt := 2) hx hb d_Plan_reset_45 (by decide) ?_
        subst emi_6
        subst eml_5
        subst emi_4
        subst emi_3
        rw [nI_1 i]
        exact ih (i + 1)  _ _ H locs ls (by omega) (by omega) (by simpa [zw_up] using e0) hB (lv_sub hl [0, 1] rfl)
  refine lv_iconst (v := 0) hx hb d_Plan_reset_0 (by decide) ?_
  refine lv_istore_n (lv' := [(1, .int 0), (0, .ref (ad 1))]) hx hb d_Plan_reset_1 rfl hl (by decide) rfl (fun ls hl => ?_)
  exact loop (n + 1) 0 _ _ _ _ ls (by omega) (by omega) e0 hB (lv_sub hl [0, 1] rfl)

set_option maxHeartbeats 4000000 in
set_option maxRecDepth 100000 in
theorem c_TS_nearestP {l : Launch} {D : va_G} {cA : Nat → ClassId} {ad : Nat → Nat} {sh : zw_Sh} {n : Nat} (hn : n ≤ 16) (hs : ∀ (k : Nat) (q : zw_Sp), (fun _ => none : zw_Sh) k = some q → sh k = some q) (z : Nat) (mi : zw_I) (ml : zw_L) (x : Int32) (lo : Int32) (hi : Int32) :
    zc_M l D cA Y_TS_nearest 1 0 0 ad sh sh z [.int x, .int lo, .int hi] mi ml (some (.int (p_nearest x lo hi))) mi ml z := by
  refine zc_enter (own := R_TS) (by decide) rfl (Nat.le_of_ble_eq_true rfl) ?_
  intro p e s m below meth c X hr hlocks hnm hB ls hl
  have X : zw_C D cA R_TS prog_1_method_14_code 3 p m c s := X
  have hr : meth.sig.returnType = (some FieldType.int) := hr
  have hx := X.1
  have hb := X.2.1
  have hl : lv_has ls 3 [(0, .int x), (1, .int lo), (2, .int hi)] := hl
  refine lv_iload_n hx hb d_TS_nearest_0 rfl (lv_at hl 1 rfl) ?_
  refine lv_iload_n hx hb d_TS_nearest_1 rfl (lv_at hl 2 rfl) ?_
  refine lv_iload_n hx hb d_TS_nearest_2 rfl (lv_at hl 0 rfl) ?_
  refine va_mmin hx hb (X.2.2.1.trans hl.1.symm) X.2.2.2.1 (X.2.2.2.2.ts _ km_TS_177) (X.2.2.2.2.ts _ km_min_st) (X.2.2.2.2.ts _ km_math_in) (X.2.2.2.2.ts _ km_min_co) (Nat.le_of_ble_eq_true rfl) (Nat.le_of_ble_eq_true rfl) (Nat.le_of_ble_eq_true rfl) (Nat.le_of_ble_eq_true rfl) d_TS_nearest_3 ?_
  refine va_mmax hx hb (X.2.2.1.trans hl.1.symm) X.2.2.2.1 (X.2.2.2.2.ts _ km_TS_183) (X.2.2.2.2.ts _ km_max_st) (X.2.2.2.2.ts _ km_math_in) (X.2.2.2.2.ts _ km_max_co) (Nat.le_of_ble_eq_true rfl) (Nat.le_of_ble_eq_true rfl) (Nat.le_of_ble_eq_true rfl) (Nat.le_of_ble_eq_true rfl) d_TS_nearest_6 ?_
  exact zc_iret X hr hlocks hB (by rfl) (by rfl) (by rfl) d_TS_nearest_9

abbrev shK_Needs_init (n : Nat) (sh : zw_Sh) : zw_Sh := (zs_up (zs_upg (zs_up (zs_up (zs_upg (zs_up (zs_up (zs_upg (zs_up (zs_up (zs_up sh 10 (.inr (0, n, 0))) 2 (.inl (4, [(2, 10), (3, 0), (3, 0), (3, 0)]))) 11 (.inr (3, n, 64))) 64 (n) (.inr (0, 6, 0))) 2 (.inl (4, [(2, 10), (2, 11), (3, 0), (3, 0)]))) 12 (.inr (3, n, 80))) 80 (n) (.inr (0, 6, 0))) 2 (.inl (4, [(2, 10), (2, 11), (2, 12), (3, 0)]))) 13 (.inr (3, n, 96))) 96 (n) (.inr (0, 6, 0))) 2 (.inl (4, [(2, 10), (2, 11), (2, 12), (2, 13)])))
set_option maxHeartbeats 4000000 in
set_option maxRecDepth 100000 in
theorem c_Needs_init {l : Launch} {D : va_G} {cA : Nat → ClassId} {ad : Nat → Nat} {sh : zw_Sh} {n : Nat} (hn : n ≤ 16) {z0 : Nat} (ha : ∀ k, ad k = zo n z0 k) (hk : sh 2 = some (.inl (4, [(3, 0), (3, 0), (3, 0), (3, 0)]))) (mi : zw_I) (ml : zw_L) (h0 : ∀ k j : Nat, k ≠ 1 → mi k j = 0) (h1 : ∀ k j : Nat, k ≠ 1 → ml k j = 0)  :
    zc_M l D cA Y_Needs_init 1 60 500 ad sh (shK_Needs_init n sh) (z0 + (6)) [.ref (ad 2), .int (nI n)] mi ml none mi ml (z0 + (10 + 3 * n)) := by
  refine zc_enter (own := R_Needs) (by decide) rfl (Nat.le_of_ble_eq_true rfl) ?_
  intro p e s m below meth c X hr hlocks hnm hB ls hl
  have X : zw_C D cA R_Needs prog_6_method_1_code 2 p m c s := X
  have hr : meth.sig.returnType = none := hr
  have hx := X.1
  have hb := X.2.1
  have hnn := zo_nn hn
  have hl : lv_has ls 2 [(0, .ref (ad 2)), (1, .int (nI n))] := hl
  refine lv_aload_n hx hb d_Needs_init_0 rfl (lv_at hl 0 rfl) ?_
  refine W.objInit hx hb X.2.2.2.1 (X.2.2.2.2.ts _ ko_Needs_3) (X.2.2.2.2.ts _ ko_in) (X.2.2.2.2.ts _ ko_co) rfl (by rw [X.2.2.1]; exact hl.1) rfl d_Needs_init_1 (Nat.le_of_ble_eq_true rfl) (Nat.le_of_ble_eq_true rfl) ?_
  show W p l e _ s m _ below meth c _ _ _ _ _ (F0 m 4 ls [])
  refine lv_aload_n hx hb d_Needs_init_4 rfl (lv_at hl 0 rfl) ?_
  refine lv_iload_n hx hb d_Needs_init_5 rfl (lv_at hl 1 rfl) ?_
  refine zw_newI X hB kw_int 10 ((ha 10).trans ((zo_10 n z0).trans (by omega))) (fun j => h0 10 j (by omega)) (nI_nneg (by omega)) (nI_clamp (by omega)) (by omega) (sh' := zs_up _ 10 (.inr (0, n, 0))) zs_self (fun i hi => zs_ne hi) (show 0 + 1 ≤ 60 by omega) (show 0 + n ≤ 500 by omega) d_Needs_init_6 (fun H hB => ?_)
  refine zw_put X hB fp_Needs_9 (fun _ => hnm) 2 ((zs_ne (by decide)).trans (hk)) (by decide) rfl rfl (mi' := mi) (ml' := ml) (q' := (2, 10)) (sh' := zs_up _ 2 (.inl (4, [(2, 10), (3, 0), (3, 0), (3, 0)]))) rfl (fun _ _ _ => rfl) (fun _ _ _ => rfl) zs_self (fun i hi => zs_ne hi) d_Needs_init_8 (fun H locs hB => ?_)
  refine lv_aload_n hx hb d_Needs_init_11 rfl (lv_at hl 0 rfl) ?_
  refine lv_iload_n hx hb d_Needs_init_12 rfl (lv_at hl 1 rfl) ?_
  refine lv_bipush (v := 6) hx hb d_Needs_init_13 (by decide) ?_
  refine zw_multi X hB (Or.inl ⟨rfl, rfl, rfl⟩) kl_Needs_15 kv_int kw_int 11 64 ((ha 11).trans ((zo_11 n z0).trans (by omega))) (fun i hi => ((ha _).trans ((zo_r0 (by omega)).trans (by omega)))) (fun i j hi => h0 _ j (by omega)) (fun i j hi => h1 _ j (by omega)) (nI_nneg (by omega)) (by decide) (nI_clamp (by omega)) (by decide) (by omega) (by omega) (sh' := zs_upg (zs_up _ 11 (.inr (3, n, 64))) 64 (n) (.inr (0, 6, 0))) ((zs_gne (Or.inl (by decide))).trans zs_self) (fun i hi => zs_gself hi) zs_gcase (show 0 + 1 + (1 + n) ≤ 60 by omega) (show 0 + n + (n + n * 6) ≤ 500 by omega) d_Needs_init_15 (fun H hB => ?_)
  refine zw_put X hB fp_Needs_17 (fun _ => hnm) 2 ((zs_gne (Or.inl (by decide))).trans ((zs_ne (by decide)).trans zs_self)) (by decide) rfl rfl (mi' := mi) (ml' := ml) (q' := (2, 11)) (sh' := zs_up _ 2 (.inl (4, [(2, 10), (2, 11), (3, 0), (3, 0)]))) rfl (fun _ _ _ => rfl) (fun _ _ _ => rfl) zs_self (fun i hi => zs_ne hi) d_Needs_init_19 (fun H locs hB => ?_)
  refine lv_aload_n hx hb d_Needs_init_22 rfl (lv_at hl 0 rfl) ?_
  refine lv_iload_n hx hb d_Needs_init_23 rfl (lv_at hl 1 rfl) ?_
  refine lv_bipush (v := 6) hx hb d_Needs_init_24 (by decide) ?_
  refine zw_multi X hB (Or.inl ⟨rfl, rfl, rfl⟩) kl_Needs_15 kv_int kw_int 12 80 ((ha 12).trans ((zo_12 n z0).trans (by omega))) (fun i hi => ((ha _).trans ((zo_r1 (by omega)).trans (by omega)))) (fun i j hi => h0 _ j (by omega)) (fun i j hi => h1 _ j (by omega)) (nI_nneg (by omega)) (by decide) (nI_clamp (by omega)) (by decide) (by omega) (by omega) (sh' := zs_upg (zs_up _ 12 (.inr (3, n, 80))) 80 (n) (.inr (0, 6, 0))) ((zs_gne (Or.inl (by decide))).trans zs_self) (fun i hi => zs_gself hi) zs_gcase (show 0 + 1 + 1 + n + (1 + n) ≤ 60 by omega) (show 0 + n + n + n * 6 + (n + n * 6) ≤ 500 by omega) d_Needs_init_26 (fun H hB => ?_)
  refine zw_put X hB fp_Needs_20 (fun _ => hnm) 2 ((zs_gne (Or.inl (by decide))).trans ((zs_ne (by decide)).trans zs_self)) (by decide) rfl rfl (mi' := mi) (ml' := ml) (q' := (2, 12)) (sh' := zs_up _ 2 (.inl (4, [(2, 10), (2, 11), (2, 12), (3, 0)]))) rfl (fun _ _ _ => rfl) (fun _ _ _ => rfl) zs_self (fun i hi => zs_ne hi) d_Needs_init_30 (fun H locs hB => ?_)
  refine lv_aload_n hx hb d_Needs_init_33 rfl (lv_at hl 0 rfl) ?_
  refine lv_iload_n hx hb d_Needs_init_34 rfl (lv_at hl 1 rfl) ?_
  refine lv_bipush (v := 6) hx hb d_Needs_init_35 (by decide) ?_
  refine zw_multi X hB (Or.inl ⟨rfl, rfl, rfl⟩) kl_Needs_15 kv_int kw_int 13 96 ((ha 13).trans ((zo_13 n z0).trans (by omega))) (fun i hi => ((ha _).trans ((zo_r2 (by omega)).trans (by omega)))) (fun i j hi => h0 _ j (by omega)) (fun i j hi => h1 _ j (by omega)) (nI_nneg (by omega)) (by decide) (nI_clamp (by omega)) (by decide) (by omega) (by omega) (sh' := zs_upg (zs_up _ 13 (.inr (3, n, 96))) 96 (n) (.inr (0, 6, 0))) ((zs_gne (Or.inl (by decide))).trans zs_self) (fun i hi => zs_gself hi) zs_gcase (show 0 + 1 + 1 + n + 1 + n + (1 + n) ≤ 60 by omega) (show 0 + n + n + n * 6 + n + n * 6 + (n + n * 6) ≤ 500 by omega) d_Needs_init_37 (fun H hB => ?_)
  refine zw_put X hB fp_Needs_23 (fun _ => hnm) 2 ((zs_gne (Or.inl (by decide))).trans ((zs_ne (by decide)).trans zs_self)) (by decide) rfl rfl (mi' := mi) (ml' := ml) (q' := (2, 13)) (sh' := zs_up _ 2 (.inl (4, [(2, 10), (2, 11), (2, 12), (2, 13)]))) rfl (fun _ _ _ => rfl) (fun _ _ _ => rfl) zs_self (fun i hi => zs_ne hi) d_Needs_init_41 (fun H locs hB => ?_)
  exact zc_vretW X hr hlocks (hB.to (show _ = z0 + (10 + 3 * n) by omega)) rfl rfl rfl (show 0 + 1 + 1 + n + 1 + n + 1 + n ≤ 60 by omega) (show 0 + n + n + n * 6 + n + n * 6 + n + n * 6 ≤ 500 by omega) d_Needs_init_44

abbrev shK_Failings_init (n : Nat) (sh : zw_Sh) : zw_Sh := (zs_up (zs_up (zs_up (zs_up (zs_up (zs_up (zs_up (zs_up (zs_up (zs_up sh 14 (.inr (0, 8, 0))) 3 (.inl (2, [(2, 14), (3, 0), (3, 0), (3, 0), (3, 0), (0, 0)]))) 15 (.inr (0, 8, 0))) 3 (.inl (2, [(2, 14), (2, 15), (3, 0), (3, 0), (3, 0), (0, 0)]))) 16 (.inr (0, 8, 0))) 3 (.inl (2, [(2, 14), (2, 15), (2, 16), (3, 0), (3, 0), (0, 0)]))) 17 (.inr (0, 8, 0))) 3 (.inl (2, [(2, 14), (2, 15), (2, 16), (2, 17), (3, 0), (0, 0)]))) 18 (.inr (0, 8, 0))) 3 (.inl (2, [(2, 14), (2, 15), (2, 16), (2, 17), (2, 18), (0, 0)])))
set_option maxHeartbeats 4000000 in
set_option maxRecDepth 100000 in
theorem c_Failings_init {l : Launch} {D : va_G} {cA : Nat → ClassId} {ad : Nat → Nat} {sh : zw_Sh} {n : Nat} (hn : n ≤ 16) {z0 : Nat} (ha : ∀ k, ad k = zo n z0 k) (hk : sh 3 = some (.inl (2, [(3, 0), (3, 0), (3, 0), (3, 0), (3, 0), (0, 0)]))) (mi : zw_I) (ml : zw_L) (h0 : ∀ k j : Nat, k ≠ 1 → mi k j = 0)  :
    zc_M l D cA Y_Failings_init 1 5 40 ad sh (shK_Failings_init n sh) (z0 + (11 + 3 * n)) [.ref (ad 3)] mi ml none mi ml (z0 + (16 + 3 * n)) := by
  refine zc_enter (own := R_Failings) (by decide) rfl (Nat.le_of_ble_eq_true rfl) ?_
  intro p e s m below meth c X hr hlocks hnm hB ls hl
  have X : zw_C D cA R_Failings prog_4_method_1_code 1 p m c s := X
  have hr : meth.sig.returnType = none := hr
  have hx := X.1
  have hb := X.2.1
  have hnn := zo_nn hn
  have hl : lv_has ls 1 [(0, .ref (ad 3))] := hl
  refine lv_aload_n hx hb d_Failings_init_0 rfl (lv_at hl 0 rfl) ?_
  refine W.objInit hx hb X.2.2.2.1 (X.2.2.2.2.ts _ ko_Failings_3) (X.2.2.2.2.ts _ ko_in) (X.2.2.2.2.ts _ ko_co) rfl (by rw [X.2.2.1]; exact hl.1) rfl d_Failings_init_1 (Nat.le_of_ble_eq_true rfl) (Nat.le_of_ble_eq_true rfl) ?_
  show W p l e _ s m _ below meth c _ _ _ _ _ (F0 m 4 ls [])
  refine lv_aload_n hx hb d_Failings_init_4 rfl (lv_at hl 0 rfl) ?_
  refine lv_bipush (v := 8) hx hb d_Failings_init_5 (by decide) ?_
  refine zw_newI X hB kw_int 14 ((ha 14).trans ((zo_14 n z0).trans (by omega))) (fun j => h0 14 j (by omega)) (by decide) (by decide) (by omega) (sh' := zs_up _ 14 (.inr (0, 8, 0))) zs_self (fun i hi => zs_ne hi) (show 0 + 1 ≤ 5 by omega) (show 0 + 8 ≤ 40 by omega) d_Failings_init_7 (fun H hB => ?_)
  refine zw_put X hB fp_Failings_9 (fun _ => hnm) 3 ((zs_ne (by decide)).trans (hk)) (by decide) rfl rfl (mi' := mi) (ml' := ml) (q' := (2, 14)) (sh' := zs_up _ 3 (.inl (2, [(2, 14), (3, 0), (3, 0), (3, 0), (3, 0), (0, 0)]))) rfl (fun _ _ _ => rfl) (fun _ _ _ => rfl) zs_self (fun i hi => zs_ne hi) d_Failings_init_9 (fun H locs hB => ?_)
  refine lv_aload_n hx hb d_Failings_init_12 rfl (lv_at hl 0 rfl) ?_
  refine lv_bipush (v := 8) hx hb d_Failings_init_13 (by decide) ?_
  refine zw_newI X hB kw_int 15 ((ha 15).trans ((zo_15 n z0).trans (by omega))) (fun j => h0 15 j (by omega)) (by decide) (by decide) (by omega) (sh' := zs_up _ 15 (.inr (0, 8, 0))) zs_self (fun i hi => zs_ne hi) (show 0 + 1 + 1 ≤ 5 by omega) (show 0 + 8 + 8 ≤ 40 by omega) d_Failings_init_15 (fun H hB => ?_)
  refine zw_put X hB fp_Failings_15 (fun _ => hnm) 3 ((zs_ne (by decide)).trans zs_self) (by decide) rfl rfl (mi' := mi) (ml' := ml) (q' := (2, 15)) (sh' := zs_up _ 3 (.inl (2, [(2, 14), (2, 15), (3, 0), (3, 0), (3, 0), (0, 0)]))) rfl (fun _ _ _ => rfl) (fun _ _ _ => rfl) zs_self (fun i hi => zs_ne hi) d_Failings_init_17 (fun H locs hB => ?_)
  refine lv_aload_n hx hb d_Failings_init_20 rfl (lv_at hl 0 rfl) ?_
  refine lv_bipush (v := 8) hx hb d_Failings_init_21 (by decide) ?_
  refine zw_newI X hB kw_int 16 ((ha 16).trans ((zo_16 n z0).trans (by omega))) (fun j => h0 16 j (by omega)) (by decide) (by decide) (by omega) (sh' := zs_up _ 16 (.inr (0, 8, 0))) zs_self (fun i hi => zs_ne hi) (show 0 + 1 + 1 + 1 ≤ 5 by omega) (show 0 + 8 + 8 + 8 ≤ 40 by omega) d_Failings_init_23 (fun H hB => ?_)
  refine zw_put X hB fp_Failings_18 (fun _ => hnm) 3 ((zs_ne (by decide)).trans zs_self) (by decide) rfl rfl (mi' := mi) (ml' := ml) (q' := (2, 16)) (sh' := zs_up _ 3 (.inl (2, [(2, 14), (2, 15), (2, 16), (3, 0), (3, 0), (0, 0)]))) rfl (fun _ _ _ => rfl) (fun _ _ _ => rfl) zs_self (fun i hi => zs_ne hi) d_Failings_init_25 (fun H locs hB => ?_)
  refine lv_aload_n hx hb d_Failings_init_28 rfl (lv_at hl 0 rfl) ?_
  refine lv_bipush (v := 8) hx hb d_Failings_init_29 (by decide) ?_
  refine zw_newI X hB kw_int 17 ((ha 17).trans ((zo_17 n z0).trans (by omega))) (fun j => h0 17 j (by omega)) (by decide) (by decide) (by omega) (sh' := zs_up _ 17 (.inr (0, 8, 0))) zs_self (fun i hi => zs_ne hi) (show 0 + 1 + 1 + 1 + 1 ≤ 5 by omega) (show 0 + 8 + 8 + 8 + 8 ≤ 40 by omega) d_Failings_init_31 (fun H hB => ?_)
  refine zw_put X hB fp_Failings_21 (fun _ => hnm) 3 ((zs_ne (by decide)).trans zs_self) (by decide) rfl rfl (mi' := mi) (ml' := ml) (q' := (2, 17)) (sh' := zs_up _ 3 (.inl (2, [(2, 14), (2, 15), (2, 16), (2, 17), (3, 0), (0, 0)]))) rfl (fun _ _ _ => rfl) (fun _ _ _ => rfl) zs_self (fun i hi => zs_ne hi) d_Failings_init_33 (fun H locs hB => ?_)
  refine lv_aload_n hx hb d_Failings_init_36 rfl (lv_at hl 0 rfl) ?_
  refine lv_bipush (v := 8) hx hb d_Failings_init_37 (by decide) ?_
  refine zw_newI X hB kw_int 18 ((ha 18).trans ((zo_18 n z0).trans (by omega))) (fun j => h0 18 j (by omega)) (by decide) (by decide) (by omega) (sh' := zs_up _ 18 (.inr (0, 8, 0))) zs_self (fun i hi => zs_ne hi) (show 0 + 1 + 1 + 1 + 1 + 1 ≤ 5 by omega) (show 0 + 8 + 8 + 8 + 8 + 8 ≤ 40 by omega) d_Failings_init_39 (fun H hB => ?_)
  refine zw_put X hB fp_Failings_24 (fun _ => hnm) 3 ((zs_ne (by decide)).trans zs_self) (by decide) rfl rfl (mi' := mi) (ml' := ml) (q' := (2, 18)) (sh' := zs_up _ 3 (.inl (2, [(2, 14), (2, 15), (2, 16), (2, 17), (2, 18), (0, 0)]))) rfl (fun _ _ _ => rfl) (fun _ _ _ => rfl) zs_self (fun i hi => zs_ne hi) d_Failings_init_41 (fun H locs hB => ?_)
  exact zc_vretW X hr hlocks (hB.to (show _ = z0 + (16 + 3 * n) by omega)) rfl rfl rfl (show 0 + 1 + 1 + 1 + 1 + 1 ≤ 5 by omega) (show 0 + 8 + 8 + 8 + 8 + 8 ≤ 40 by omega) d_Failings_init_44

abbrev shK_Line_init (n : Nat) (sh : zw_Sh) : zw_Sh := (zs_up (zs_up sh 22 (.inr (0, n, 0))) 4 (.inl (3, [(2, 22), (0, 0), (0, 0)])))
set_option maxHeartbeats 4000000 in
set_option maxRecDepth 100000 in
theorem c_Line_init {l : Launch} {D : va_G} {cA : Nat → ClassId} {ad : Nat → Nat} {sh : zw_Sh} {n : Nat} (hn : n ≤ 16) {z0 : Nat} (ha : ∀ k, ad k = zo n z0 k) (hk : sh 4 = some (.inl (3, [(3, 0), (0, 0), (0, 0)]))) (mi : zw_I) (ml : zw_L) (h0 : ∀ k j : Nat, 10 < k → mi k j = 0)  :
    zc_M l D cA Y_Line_init 1 1 16 ad sh (shK_Line_init n sh) (z0 + (18 + 3 * n)) [.ref (ad 4), .int (nI n)] mi ml none mi ml (z0 + (19 + 3 * n)) := by
  refine zc_enter (own := R_Line) (by decide) rfl (Nat.le_of_ble_eq_true rfl) ?_
  intro p e s m below meth c X hr hlocks hnm hB ls hl
  have X : zw_C D cA R_Line prog_5_method_1_code 2 p m c s := X
  have hr : meth.sig.returnType = none := hr
  have hx := X.1
  have hb := X.2.1
  have hnn := zo_nn hn
  have hl : lv_has ls 2 [(0, .ref (ad 4)), (1, .int (nI n))] := hl
  refine lv_aload_n hx hb d_Line_init_0 rfl (lv_at hl 0 rfl) ?_
  refine W.objInit hx hb X.2.2.2.1 (X.2.2.2.2.ts _ ko_Line_3) (X.2.2.2.2.ts _ ko_in) (X.2.2.2.2.ts _ ko_co) rfl (by rw [X.2.2.1]; exact hl.1) rfl d_Line_init_1 (Nat.le_of_ble_eq_true rfl) (Nat.le_of_ble_eq_true rfl) ?_
  show W p l e _ s m _ below meth c _ _ _ _ _ (F0 m 4 ls [])
  refine lv_aload_n hx hb d_Line_init_4 rfl (lv_at hl 0 rfl) ?_
  refine lv_iload_n hx hb d_Line_init_5 rfl (lv_at hl 1 rfl) ?_
  refine zw_newI X hB kw_int 22 ((ha 22).trans ((zo_22 n z0).trans (by omega))) (fun j => h0 22 j (by omega)) (nI_nneg (by omega)) (nI_clamp (by omega)) (by omega) (sh' := zs_up _ 22 (.inr (0, n, 0))) zs_self (fun i hi => zs_ne hi) (show 0 + 1 ≤ 1 by omega) (show 0 + n ≤ 16 by omega) d_Line_init_6 (fun H hB => ?_)
  refine zw_put X hB fp_Line_9 (fun _ => hnm) 4 ((zs_ne (by decide)).trans (hk)) (by decide) rfl rfl (mi' := mi) (ml' := ml) (q' := (2, 22)) (sh' := zs_up _ 4 (.inl (3, [(2, 22), (0, 0), (0, 0)]))) rfl (fun _ _ _ => rfl) (fun _ _ _ => rfl) zs_self (fun i hi => zs_ne hi) d_Line_init_8 (fun H locs hB => ?_)
  exact zc_vretW X hr hlocks (hB.to (show _ = z0 + (19 + 3 * n) by omega)) rfl rfl rfl (show 0 + 1 ≤ 1 by omega) (show 0 + n ≤ 16 by omega) d_Line_init_11

abbrev shK_Crew_init (n : Nat) (sh : zw_Sh) : zw_Sh := (zs_up (zs_up (zs_up (zs_up sh 28 (.inr (0, 16, 0))) 6 (.inl (1, [(2, 28), (3, 0), (0, 0)]))) 29 (.inr (0, 16, 0))) 6 (.inl (1, [(2, 28), (2, 29), (0, 0)])))
set_option maxHeartbeats 4000000 in
set_option maxRecDepth 100000 in
theorem c_Crew_init {l : Launch} {D : va_G} {cA : Nat → ClassId} {ad : Nat → Nat} {sh : zw_Sh} {n : Nat} (hn : n ≤ 16) {z0 : Nat} (ha : ∀ k, ad k = zo n z0 k) (hk : sh 6 = some (.inl (1, [(3, 0), (3, 0), (0, 0)]))) (mi : zw_I) (ml : zw_L) (h0 : ∀ k j : Nat, 10 < k → mi k j = 0)  :
    zc_M l D cA Y_Crew_init 1 2 32 ad sh (shK_Crew_init n sh) (z0 + (20 + 3 * n)) [.ref (ad 6)] mi ml none mi ml (z0 + (22 + 3 * n)) := by
  refine zc_enter (own := R_Crew) (by decide) rfl (Nat.le_of_ble_eq_true rfl) ?_
  intro p e s m below meth c X hr hlocks hnm hB ls hl
  have X : zw_C D cA R_Crew prog_3_method_1_code 1 p m c s := X
  have hr : meth.sig.returnType = none := hr
  have hx := X.1
  have hb := X.2.1
  have hnn := zo_nn hn
  have hl : lv_has ls 1 [(0, .ref (ad 6))] := hl
  refine lv_aload_n hx hb d_Crew_init_0 rfl (lv_at hl 0 rfl) ?_
  refine W.objInit hx hb X.2.2.2.1 (X.2.2.2.2.ts _ ko_Crew_3) (X.2.2.2.2.ts _ ko_in) (X.2.2.2.2.ts _ ko_co) rfl (by rw [X.2.2.1]; exact hl.1) rfl d_Crew_init_1 (Nat.le_of_ble_eq_true rfl) (Nat.le_of_ble_eq_true rfl) ?_
  show W p l e _ s m _ below meth c _ _ _ _ _ (F0 m 4 ls [])
  refine lv_aload_n hx hb d_Crew_init_4 rfl (lv_at hl 0 rfl) ?_
  refine lv_bipush (v := 16) hx hb d_Crew_init_5 (by decide) ?_
  refine zw_newI X hB kw_int 28 ((ha 28).trans ((zo_28 n z0).trans (by omega))) (fun j => h0 28 j (by omega)) (by decide) (by decide) (by omega) (sh' := zs_up _ 28 (.inr (0, 16, 0))) zs_self (fun i hi => zs_ne hi) (show 0 + 1 ≤ 2 by omega) (show 0 + 16 ≤ 32 by omega) d_Crew_init_7 (fun H hB => ?_)
  refine zw_put X hB fp_Crew_9 (fun _ => hnm) 6 ((zs_ne (by decide)).trans (hk)) (by decide) rfl rfl (mi' := mi) (ml' := ml) (q' := (2, 28)) (sh' := zs_up _ 6 (.inl (1, [(2, 28), (3, 0), (0, 0)]))) rfl (fun _ _ _ => rfl) (fun _ _ _ => rfl) zs_self (fun i hi => zs_ne hi) d_Crew_init_9 (fun H locs hB => ?_)
  refine lv_aload_n hx hb d_Crew_init_12 rfl (lv_at hl 0 rfl) ?_
  refine lv_bipush (v := 16) hx hb d_Crew_init_13 (by decide) ?_
  refine zw_newI X hB kw_int 29 ((ha 29).trans ((zo_29 n z0).trans (by omega))) (fun j => h0 29 j (by omega)) (by decide) (by decide) (by omega) (sh' := zs_up _ 29 (.inr (0, 16, 0))) zs_self (fun i hi => zs_ne hi) (show 0 + 1 + 1 ≤ 2 by omega) (show 0 + 16 + 16 ≤ 32 by omega) d_Crew_init_15 (fun H hB => ?_)
  refine zw_put X hB fp_Crew_15 (fun _ => hnm) 6 ((zs_ne (by decide)).trans zs_self) (by decide) rfl rfl (mi' := mi) (ml' := ml) (q' := (2, 29)) (sh' := zs_up _ 6 (.inl (1, [(2, 28), (2, 29), (0, 0)]))) rfl (fun _ _ _ => rfl) (fun _ _ _ => rfl) zs_self (fun i hi => zs_ne hi) d_Crew_init_17 (fun H locs hB => ?_)
  exact zc_vretW X hr hlocks (hB.to (show _ = z0 + (22 + 3 * n) by omega)) rfl rfl rfl (show 0 + 1 + 1 ≤ 2 by omega) (show 0 + 16 + 16 ≤ 32 by omega) d_Crew_init_20

abbrev shK_Plan_init (n : Nat) (sh : zw_Sh) : zw_Sh := (zs_up (zs_up (zs_up (zs_up (zs_up (zs_up (zs_up (zs_up (zs_up (zs_up (zs_up (zs_up (zs_up (zs_up (zs_upg (zs_up (zs_up (zs_upg (zs_up (zs_up (zs_upg (zs_up (zs_up (zs_up (zs_up (zs_up (zs_up (zs_up (zs_up (zs_up (zs_up sh 7 (.inr (0, n, 0))) 1 (.inl (5, [(0, 0), (0, 0), (2, 7), (3, 0), (3, 0), (3, 0), (3, 0), (0, 0)]))) 8 (.inr (0, n, 0))) 1 (.inl (5, [(0, 0), (0, 0), (2, 7), (2, 8), (3, 0), (3, 0), (3, 0), (0, 0)]))) 9 (.inr (1, n, 0))) 1 (.inl (5, [(0, 0), (0, 0), (2, 7), (2, 8), (2, 9), (3, 0), (3, 0), (0, 0)]))) 2 (.inl (4, [(3, 0), (3, 0), (3, 0), (3, 0)]))) 10 (.inr (0, n, 0))) 2 (.inl (4, [(2, 10), (3, 0), (3, 0), (3, 0)]))) 11 (.inr (3, n, 64))) 64 (n) (.inr (0, 6, 0))) 2 (.inl (4, [(2, 10), (2, 11), (3, 0), (3, 0)]))) 12 (.inr (3, n, 80))) 80 (n) (.inr (0, 6, 0))) 2 (.inl (4, [(2, 10), (2, 11), (2, 12), (3, 0)]))) 13 (.inr (3, n, 96))) 96 (n) (.inr (0, 6, 0))) 2 (.inl (4, [(2, 10), (2, 11), (2, 12), (2, 13)]))) 1 (.inl (5, [(0, 0), (0, 0), (2, 7), (2, 8), (2, 9), (2, 2), (3, 0), (0, 0)]))) 3 (.inl (2, [(3, 0), (3, 0), (3, 0), (3, 0), (3, 0), (0, 0)]))) 14 (.inr (0, 8, 0))) 3 (.inl (2, [(2, 14), (3, 0), (3, 0), (3, 0), (3, 0), (0, 0)]))) 15 (.inr (0, 8, 0))) 3 (.inl (2, [(2, 14), (2, 15), (3, 0), (3, 0), (3, 0), (0, 0)]))) 16 (.inr (0, 8, 0))) 3 (.inl (2, [(2, 14), (2, 15), (2, 16), (3, 0), (3, 0), (0, 0)]))) 17 (.inr (0, 8, 0))) 3 (.inl (2, [(2, 14), (2, 15), (2, 16), (2, 17), (3, 0), (0, 0)]))) 18 (.inr (0, 8, 0))) 3 (.inl (2, [(2, 14), (2, 15), (2, 16), (2, 17), (2, 18), (0, 0)]))) 1 (.inl (5, [(0, 0), (0, 0), (2, 7), (2, 8), (2, 9), (2, 2), (2, 3), (0, 0)])))
theorem shK_Plan_ok {n : Nat} {sh : zw_Sh} : ∀ (k : Nat) (q : zw_Sp), shP n k = some q → shK_Plan_init n sh k = some q := by
  intro k q h
  unfold shP at h
  split at h
  · rename_i hm
    simp only [List.mem_cons, List.not_mem_nil, or_false] at hm
    rcases hm with rfl | rfl | rfl | rfl | rfl | rfl | rfl
    all_goals exact h
  · cases h
set_option maxHeartbeats 4000000 in
set_option maxRecDepth 100000 in
theorem c_Plan_init {l : Launch} {D : va_G} {cA : Nat → ClassId} {ad : Nat → Nat} {sh : zw_Sh} {n : Nat} (hn : n ≤ 16) {z0 : Nat} (ha : ∀ k, ad k = zo n z0 k) (hk : sh 1 = some (.inl (5, [(0, 0), (0, 0), (3, 0), (3, 0), (3, 0), (3, 0), (3, 0), (0, 0)]))) (rm : Int32)  :
    zc_M l D cA Y_Plan_init 2 100 700 ad sh (shK_Plan_init n sh) (z0 + (2)) [.ref (ad 1), .int (nI n), .int rm] (fun _ _ => 0) (fun _ _ => 0) none ((p_reset n (n + 1) 0 (zw_up (zw_up (fun _ _ => 0) 1 0 (nI n)) 1 1 rm) (fun _ _ => 0)).1) ((p_reset n (n + 1) 0 (zw_up (zw_up (fun _ _ => 0) 1 0 (nI n)) 1 1 rm) (fun _ _ => 0)).2) (z0 + (16 + 3 * n)) := by
  refine zc_enter (own := R_Plan) (by decide) rfl (Nat.le_of_ble_eq_true rfl) ?_
  intro p e s m below meth c X hr hlocks hnm hB ls hl
  have X : zw_C D cA R_Plan prog_7_method_1_code 3 p m c s := X
  have hr : meth.sig.returnType = none := hr
  have hx := X.1
  have hb := X.2.1
  have hnn := zo_nn hn
  have hl : lv_has ls 3 [(0, .ref (ad 1)), (1, .int (nI n)), (2, .int rm)] := hl
  refine lv_aload_n hx hb d_Plan_init_0 rfl (lv_at hl 0 rfl) ?_
  refine W.objInit hx hb X.2.2.2.1 (X.2.2.2.2.ts _ ko_Plan_3) (X.2.2.2.2.ts _ ko_in) (X.2.2.2.2.ts _ ko_co) rfl (by rw [X.2.2.1]; exact hl.1) rfl d_Plan_init_1 (Nat.le_of_ble_eq_true rfl) (Nat.le_of_ble_eq_true rfl) ?_
  show W p l e _ s m _ below meth c _ _ _ _ _ (F0 m 4 ls [])
  refine lv_aload_n hx hb d_Plan_init_4 rfl (lv_at hl 0 rfl) ?_
  refine lv_iload_n hx hb d_Plan_init_5 rfl (lv_at hl 1 rfl) ?_
  refine zw_putI X hB fp_Plan_9 (fun _ => hnm) 1 (hk) rfl d_Plan_init_6 (fun H locs hB => ?_)
  refine lv_aload_n hx hb d_Plan_init_9 rfl (lv_at hl 0 rfl) ?_
  refine lv_iload_n hx hb d_Plan_init_10 rfl (lv_at hl 2 rfl) ?_
  refine zw_putI X hB fp_Plan_15 (fun _ => hnm) 1 (hk) rfl d_Plan_init_11 (fun H locs hB => ?_)
  have h0 : ∀ k j : Nat, k ≠ 1 → (zw_up (zw_up (fun _ _ => 0) 1 0 (nI n)) 1 1 rm) k j = 0 := fun k j h => by rw [zw_up_ne1 _ _ _ h, zw_up_ne1 _ _ _ h]
  have h1 : ∀ k j : Nat, k ≠ 1 → (fun _ _ => 0 : Nat → Nat → Int64) k j = 0 := fun _ _ _ => rfl
  refine lv_aload_n hx hb d_Plan_init_14 rfl (lv_at hl 0 rfl) ?_
  refine lv_iload_n hx hb d_Plan_init_15 rfl (lv_at hl 1 rfl) ?_
  refine zw_newI X hB kw_int 7 ((ha 7).trans ((zo_7 n z0).trans (by omega))) (fun j => h0 7 j (by omega)) (nI_nneg (by omega)) (nI_clamp (by omega)) (by omega) (sh' := zs_up _ 7 (.inr (0, n, 0))) zs_self (fun i hi => zs_ne hi) (show 0 + 1 ≤ 100 by omega) (show 0 + n ≤ 700 by omega) d_Plan_init_16 (fun H hB => ?_)
  refine zw_put X hB fp_Plan_18 (fun _ => hnm) 1 ((zs_ne (by decide)).trans (hk)) (by decide) rfl rfl (mi' := (zw_up (zw_up (fun _ _ => 0) 1 0 (nI n)) 1 1 rm)) (ml' := (fun _ _ => 0)) (q' := (2, 7)) (sh' := zs_up _ 1 (.inl (5, [(0, 0), (0, 0), (2, 7), (3, 0), (3, 0), (3, 0), (3, 0), (0, 0)]))) rfl (fun _ _ _ => rfl) (fun _ _ _ => rfl) zs_self (fun i hi => zs_ne hi) d_Plan_init_18 (fun H locs hB => ?_)
  refine lv_aload_n hx hb d_Plan_init_21 rfl (lv_at hl 0 rfl) ?_
  refine lv_iload_n hx hb d_Plan_init_22 rfl (lv_at hl 1 rfl) ?_
  refine zw_newI X hB kw_int 8 ((ha 8).trans ((zo_8 n z0).trans (by omega))) (fun j => h0 8 j (by omega)) (nI_nneg (by omega)) (nI_clamp (by omega)) (by omega) (sh' := zs_up _ 8 (.inr (0, n, 0))) zs_self (fun i hi => zs_ne hi) (show 0 + 1 + 1 ≤ 100 by omega) (show 0 + n + n ≤ 700 by omega) d_Plan_init_23 (fun H hB => ?_)
  refine zw_put X hB fp_Plan_22 (fun _ => hnm) 1 ((zs_ne (by decide)).trans zs_self) (by decide) rfl rfl (mi' := (zw_up (zw_up (fun _ _ => 0) 1 0 (nI n)) 1 1 rm)) (ml' := (fun _ _ => 0)) (q' := (2, 8)) (sh' := zs_up _ 1 (.inl (5, [(0, 0), (0, 0), (2, 7), (2, 8), (3, 0), (3, 0), (3, 0), (0, 0)]))) rfl (fun _ _ _ => rfl) (fun _ _ _ => rfl) zs_self (fun i hi => zs_ne hi) d_Plan_init_25 (fun H locs hB => ?_)
  refine lv_aload_n hx hb d_Plan_init_28 rfl (lv_at hl 0 rfl) ?_
  refine lv_iload_n hx hb d_Plan_init_29 rfl (lv_at hl 1 rfl) ?_
  refine zw_newJ X hB kw_long 9 ((ha 9).trans ((zo_9 n z0).trans (by omega))) (fun j => h1 9 j (by omega)) (nI_nneg (by omega)) (nI_clamp (by omega)) (by omega) (sh' := zs_up _ 9 (.inr (1, n, 0))) zs_self (fun i hi => zs_ne hi) (show 0 + 1 + 1 + 1 ≤ 100 by omega) (show 0 + n + n + n ≤ 700 by omega) d_Plan_init_30 (fun H hB => ?_)
  refine zw_put X hB fp_Plan_25 (fun _ => hnm) 1 ((zs_ne (by decide)).trans zs_self) (by decide) rfl rfl (mi' := (zw_up (zw_up (fun _ _ => 0) 1 0 (nI n)) 1 1 rm)) (ml' := (fun _ _ => 0)) (q' := (2, 9)) (sh' := zs_up _ 1 (.inl (5, [(0, 0), (0, 0), (2, 7), (2, 8), (2, 9), (3, 0), (3, 0), (0, 0)]))) rfl (fun _ _ _ => rfl) (fun _ _ _ => rfl) zs_self (fun i hi => zs_ne hi) d_Plan_init_32 (fun H locs hB => ?_)
  refine lv_aload_n hx hb d_Plan_init_35 rfl (lv_at hl 0 rfl) ?_
  refine zw_new X hB nl_Plan_29 2 ((ha 2).trans ((zo_2 n z0).trans (by omega))) (fun j => h0 2 j (by omega)) (fun j => h1 2 j (by omega)) (sh' := zs_up _ 2 (.inl (4, [(3, 0), (3, 0), (3, 0), (3, 0)]))) zs_self (fun i hi => zs_ne hi) (show 0 + 1 + 1 + 1 + 1 ≤ 100 by omega) (show 0 + n + n + n + 4 ≤ 700 by omega) d_Plan_init_36 (fun H hB => ?_)
  refine lv_dup hx hb d_Plan_init_39 rfl ?_
  refine lv_iload_n hx hb d_Plan_init_40 rfl (lv_at hl 1 rfl) ?_
  refine zw_callIv X (hB.to (show _ = z0 + (6) by omega)) mv_Plan_31 (c_Needs_init hn ha zs_self (zw_up (zw_up (fun _ _ => 0) 1 0 (nI n)) 1 1 rm) (fun _ _ => 0) (fun k j h => by rw [zw_up_ne1 _ _ _ h, zw_up_ne1 _ _ _ h]) (fun _ _ _ => rfl)) rfl hl.1 ⟨Nat.le_of_ble_eq_true rfl, Nat.le_of_ble_eq_true rfl⟩ rfl (Nat.le_of_ble_eq_true rfl) ⟨show 0 + 1 + 1 + 1 + 1 + 60 ≤ 100 by omega, show 0 + n + n + n + 4 + 500 ≤ 700 by omega⟩ d_Plan_init_41 (fun H locs hB => ?_)
  refine zw_put X hB fp_Plan_34 (fun _ => hnm) 1 ((zs_ne (by decide)).trans ((zs_gne (Or.inl (by decide))).trans ((zs_ne (by decide)).trans ((zs_ne (by decide)).trans ((zs_gne (Or.inl (by decide))).trans ((zs_ne (by decide)).trans ((zs_ne (by decide)).trans ((zs_gne (Or.inl (by decide))).trans ((zs_ne (by decide)).trans ((zs_ne (by decide)).trans ((zs_ne (by decide)).trans ((zs_ne (by decide)).trans zs_self)))))))))))) (by decide) rfl rfl (mi' := (zw_up (zw_up (fun _ _ => 0) 1 0 (nI n)) 1 1 rm)) (ml' := (fun _ _ => 0)) (q' := (2, 2)) (sh' := zs_up _ 1 (.inl (5, [(0, 0), (0, 0), (2, 7), (2, 8), (2, 9), (2, 2), (3, 0), (0, 0)]))) rfl (fun _ _ _ => rfl) (fun _ _ _ => rfl) zs_self (fun i hi => zs_ne hi) d_Plan_init_44 (fun H locs hB => ?_)
  refine lv_aload_n hx hb d_Plan_init_47 rfl (lv_at hl 0 rfl) ?_
  refine zw_new X hB nl_Plan_38 3 ((ha 3).trans ((zo_3 n z0).trans (by omega))) (fun j => h0 3 j (by omega)) (fun j => h1 3 j (by omega)) (sh' := zs_up _ 3 (.inl (2, [(3, 0), (3, 0), (3, 0), (3, 0), (3, 0), (0, 0)]))) zs_self (fun i hi => zs_ne hi) (show 0 + 1 + 1 + 1 + 1 + 60 + 1 ≤ 100 by omega) (show 0 + n + n + n + 4 + 500 + 6 ≤ 700 by omega) d_Plan_init_48 (fun H hB => ?_)
  refine lv_dup hx hb d_Plan_init_51 rfl ?_
  refine zw_callIv X (hB.to (show _ = z0 + (11 + 3 * n) by omega)) mv_Plan_40 (c_Failings_init hn ha zs_self (zw_up (zw_up (fun _ _ => 0) 1 0 (nI n)) 1 1 rm) (fun _ _ => 0) (fun k j h => by rw [zw_up_ne1 _ _ _ h, zw_up_ne1 _ _ _ h])) rfl hl.1 ⟨Nat.le_of_ble_eq_true rfl, Nat.le_of_ble_eq_true rfl⟩ rfl (Nat.le_of_ble_eq_true rfl) ⟨show 0 + 1 + 1 + 1 + 1 + 60 + 1 + 5 ≤ 100 by omega, show 0 + n + n + n + 4 + 500 + 6 + 40 ≤ 700 by omega⟩ d_Plan_init_52 (fun H locs hB => ?_)
  refine zw_put X hB fp_Plan_41 (fun _ => hnm) 1 ((zs_ne (by decide)).trans ((zs_ne (by decide)).trans ((zs_ne (by decide)).trans ((zs_ne (by decide)).trans ((zs_ne (by decide)).trans ((zs_ne (by decide)).trans ((zs_ne (by decide)).trans ((zs_ne (by decide)).trans ((zs_ne (by decide)).trans ((zs_ne (by decide)).trans ((zs_ne (by decide)).trans zs_self))))))))))) (by decide) rfl rfl (mi' := (zw_up (zw_up (fun _ _ => 0) 1 0 (nI n)) 1 1 rm)) (ml' := (fun _ _ => 0)) (q' := (2, 3)) (sh' := zs_up _ 1 (.inl (5, [(0, 0), (0, 0), (2, 7), (2, 8), (2, 9), (2, 2), (2, 3), (0, 0)]))) rfl (fun _ _ _ => rfl) (fun _ _ _ => rfl) zs_self (fun i hi => zs_ne hi) d_Plan_init_55 (fun H locs hB => ?_)
  refine lv_aload_n hx hb d_Plan_init_58 rfl (lv_at hl 0 rfl) ?_
  refine zw_callVv X hB mv_Plan_45 1 zs_self rfl (c_Plan_resetP hn (shK_Plan_ok (sh := sh) (n := n)) (z0 + (16 + 3 * n)) (zw_up (zw_up (fun _ _ => 0) 1 0 (nI n)) 1 1 rm) (fun _ _ => 0) rfl) rfl hl.1 ⟨Nat.le_of_ble_eq_true rfl, Nat.le_of_ble_eq_true rfl⟩ rfl (Nat.le_of_ble_eq_true rfl) ⟨show 0 + 1 + 1 + 1 + 1 + 60 + 1 + 5 + 0 ≤ 100 by omega, show 0 + n + n + n + 4 + 500 + 6 + 40 + 0 ≤ 700 by omega⟩ d_Plan_init_59 (fun H locs hB => ?_)
  exact zc_vretW X hr hlocks (hB.to (show _ = z0 + (16 + 3 * n) by omega)) rfl rfl rfl (show 0 + 1 + 1 + 1 + 1 + 60 + 1 + 5 ≤ 100 by omega) (show 0 + n + n + n + 4 + 500 + 6 + 40 ≤ 700 by omega) d_Plan_init_62

abbrev shK_Course_init (n : Nat) (sh : zw_Sh) : zw_Sh := (zs_up (zs_up (zs_up (zs_upg (zs_up (zs_up (zs_up (zs_up (zs_upg (zs_up (zs_up (zs_up (zs_up (zs_up (zs_up (zs_up (zs_up (zs_up (zs_up (zs_up (zs_up (zs_up (zs_up sh 5 (.inl (0, [(2, 1), (3, 0), (3, 0), (3, 0), (3, 0), (3, 0), (3, 0), (3, 0), (0, 0), (0, 0), (0, 0), (0, 0), (0, 0), (0, 0), (0, 0)]))) 4 (.inl (3, [(3, 0), (0, 0), (0, 0)]))) 22 (.inr (0, n, 0))) 4 (.inl (3, [(2, 22), (0, 0), (0, 0)]))) 5 (.inl (0, [(2, 1), (2, 4), (3, 0), (3, 0), (3, 0), (3, 0), (3, 0), (3, 0), (0, 0), (0, 0), (0, 0), (0, 0), (0, 0), (0, 0), (0, 0)]))) 6 (.inl (1, [(3, 0), (3, 0), (0, 0)]))) 28 (.inr (0, 16, 0))) 6 (.inl (1, [(2, 28), (3, 0), (0, 0)]))) 29 (.inr (0, 16, 0))) 6 (.inl (1, [(2, 28), (2, 29), (0, 0)]))) 5 (.inl (0, [(2, 1), (2, 4), (2, 6), (3, 0), (3, 0), (3, 0), (3, 0), (3, 0), (0, 0), (0, 0), (0, 0), (0, 0), (0, 0), (0, 0), (0, 0)]))) 23 (.inr (0, n, 0))) 5 (.inl (0, [(2, 1), (2, 4), (2, 6), (2, 23), (3, 0), (3, 0), (3, 0), (3, 0), (0, 0), (0, 0), (0, 0), (0, 0), (0, 0), (0, 0), (0, 0)]))) 24 (.inr (4, n, 112))) 112 (n) (.inr (1, 21, 0))) 5 (.inl (0, [(2, 1), (2, 4), (2, 6), (2, 23), (2, 24), (3, 0), (3, 0), (3, 0), (0, 0), (0, 0), (0, 0), (0, 0), (0, 0), (0, 0), (0, 0)]))) 25 (.inr (0, n, 0))) 5 (.inl (0, [(2, 1), (2, 4), (2, 6), (2, 23), (2, 24), (2, 25), (3, 0), (3, 0), (0, 0), (0, 0), (0, 0), (0, 0), (0, 0), (0, 0), (0, 0)]))) 26 (.inr (3, n, 128))) 128 (n) (.inr (0, n, 0))) 5 (.inl (0, [(2, 1), (2, 4), (2, 6), (2, 23), (2, 24), (2, 25), (2, 26), (3, 0), (0, 0), (0, 0), (0, 0), (0, 0), (0, 0), (0, 0), (0, 0)]))) 27 (.inr (0, n, 0))) 5 (.inl (0, [(2, 1), (2, 4), (2, 6), (2, 23), (2, 24), (2, 25), (2, 26), (2, 27), (0, 0), (0, 0), (0, 0), (0, 0), (0, 0), (0, 0), (0, 0)])))
set_option maxHeartbeats 4000000 in
set_option maxRecDepth 100000 in
theorem c_Course_init {l : Launch} {D : va_G} {cA : Nat → ClassId} {ad : Nat → Nat} {sh : zw_Sh} {n : Nat} (hn : n ≤ 16) {z0 : Nat} (ha : ∀ k, ad k = zo n z0 k) (hk : sh 5 = some (.inl (0, [(3, 0), (3, 0), (3, 0), (3, 0), (3, 0), (3, 0), (3, 0), (3, 0), (0, 0), (0, 0), (0, 0), (0, 0), (0, 0), (0, 0), (0, 0)]))) (mi : zw_I) (ml : zw_L) (h0 : ∀ k j : Nat, k ≠ 1 ∧ k ≠ 3 ∧ k ≠ 7 ∧ k ≠ 8 ∧ k ≠ 10 → mi k j = 0) (h1 : ∀ k j : Nat, k ≠ 9 → ml k j = 0) (hk1 : sh 1 = some (.inl (5, [(0, 0), (0, 0), (2, 7), (2, 8), (2, 9), (2, 2), (2, 3), (0, 0)]))) (en : mi 1 0 = nI n) :
    zc_M l D cA Y_Course_init 2 60 1100 ad sh (shK_Course_init n sh) (z0 + (17 + 3 * n)) [.ref (ad 5), .ref (ad 1)] mi ml none mi ml (z0 + (27 + 5 * n)) := by
  refine zc_enter (own := R_Course) (by decide) rfl (Nat.le_of_ble_eq_true rfl) ?_
  intro p e s m below meth c X hr hlocks hnm hB ls hl
  have X : zw_C D cA R_Course prog_2_method_1_code 2 p m c s := X
  have hr : meth.sig.returnType = none := hr
  have hx := X.1
  have hb := X.2.1
  have hnn := zo_nn hn
  have hl : lv_has ls 2 [(0, .ref (ad 5)), (1, .ref (ad 1))] := hl
  refine lv_aload_n hx hb d_Course_init_0 rfl (lv_at hl 0 rfl) ?_
  refine W.objInit hx hb X.2.2.2.1 (X.2.2.2.2.ts _ ko_Course_3) (X.2.2.2.2.ts _ ko_in) (X.2.2.2.2.ts _ ko_co) rfl (by rw [X.2.2.1]; exact hl.1) rfl d_Course_init_1 (Nat.le_of_ble_eq_true rfl) (Nat.le_of_ble_eq_true rfl) ?_
  show W p l e _ s m _ below meth c _ _ _ _ _ (F0 m 4 ls [])
  refine lv_aload_n hx hb d_Course_init_4 rfl (lv_at hl 0 rfl) ?_
  refine lv_aload_n hx hb d_Course_init_5 rfl (lv_at hl 1 rfl) ?_
  refine zw_put X hB fp_Course_9 (fun _ => hnm) 5 (hk) (by decide) rfl rfl (mi' := mi) (ml' := ml) (q' := (2, 1)) (sh' := zs_up _ 5 (.inl (0, [(2, 1), (3, 0), (3, 0), (3, 0), (3, 0), (3, 0), (3, 0), (3, 0), (0, 0), (0, 0), (0, 0), (0, 0), (0, 0), (0, 0), (0, 0)]))) rfl (fun _ _ _ => rfl) (fun _ _ _ => rfl) zs_self (fun i hi => zs_ne hi) d_Course_init_6 (fun H locs hB => ?_)
  refine lv_aload_n hx hb d_Course_init_9 rfl (lv_at hl 0 rfl) ?_
  refine zw_new X hB nl_Course_15 4 ((ha 4).trans ((zo_4 n z0).trans (by omega))) (fun j => h0 4 j (by omega)) (fun j => h1 4 j (by omega)) (sh' := zs_up _ 4 (.inl (3, [(3, 0), (0, 0), (0, 0)]))) zs_self (fun i hi => zs_ne hi) (show 0 + 1 ≤ 60 by omega) (show 0 + 3 ≤ 1100 by omega) d_Course_init_10 (fun H hB => ?_)
  refine lv_dup hx hb d_Course_init_13 rfl ?_
  refine lv_aload_n hx hb d_Course_init_14 rfl (lv_at hl 1 rfl) ?_
  refine zw_getI X hB fl_Course_17 1 ((zs_ne (by decide)).trans ((zs_ne (by decide)).trans (hk1))) rfl d_Course_init_15 ?_
  rw [en]
  refine zw_callIv X (hB.to (show _ = z0 + (18 + 3 * n) by omega)) mv_Course_23 (c_Line_init hn ha zs_self mi ml (fun k j h => h0 k j (by omega))) rfl hl.1 ⟨Nat.le_of_ble_eq_true rfl, Nat.le_of_ble_eq_true rfl⟩ rfl (Nat.le_of_ble_eq_true rfl) ⟨show 0 + 1 + 1 ≤ 60 by omega, show 0 + 3 + 16 ≤ 1100 by omega⟩ d_Course_init_18 (fun H locs hB => ?_)
  refine zw_put X hB fp_Course_26 (fun _ => hnm) 5 ((zs_ne (by decide)).trans ((zs_ne (by decide)).trans ((zs_ne (by decide)).trans zs_self))) (by decide) rfl rfl (mi' := mi) (ml' := ml) (q' := (2, 4)) (sh' := zs_up _ 5 (.inl (0, [(2, 1), (2, 4), (3, 0), (3, 0), (3, 0), (3, 0), (3, 0), (3, 0), (0, 0), (0, 0), (0, 0), (0, 0), (0, 0), (0, 0), (0, 0)]))) rfl (fun _ _ _ => rfl) (fun _ _ _ => rfl) zs_self (fun i hi => zs_ne hi) d_Course_init_21 (fun H locs hB => ?_)
  refine lv_aload_n hx hb d_Course_init_24 rfl (lv_at hl 0 rfl) ?_
  refine zw_new X hB nl_Course_30 6 ((ha 6).trans ((zo_6 n z0).trans (by omega))) (fun j => h0 6 j (by omega)) (fun j => h1 6 j (by omega)) (sh' := zs_up _ 6 (.inl (1, [(3, 0), (3, 0), (0, 0)]))) zs_self (fun i hi => zs_ne hi) (show 0 + 1 + 1 + 1 ≤ 60 by omega) (show 0 + 3 + 16 + 3 ≤ 1100 by omega) d_Course_init_25 (fun H hB => ?_)
  refine lv_dup hx hb d_Course_init_28 rfl ?_
  refine zw_callIv X (hB.to (show _ = z0 + (20 + 3 * n) by omega)) mv_Course_32 (c_Crew_init hn ha zs_self mi ml (fun k j h => h0 k j (by omega))) rfl hl.1 ⟨Nat.le_of_ble_eq_true rfl, Nat.le_of_ble_eq_true rfl⟩ rfl (Nat.le_of_ble_eq_true rfl) ⟨show 0 + 1 + 1 + 1 + 2 ≤ 60 by omega, show 0 + 3 + 16 + 3 + 32 ≤ 1100 by omega⟩ d_Course_init_29 (fun H locs hB => ?_)
  refine zw_put X hB fp_Course_33 (fun _ => hnm) 5 ((zs_ne (by decide)).trans ((zs_ne (by decide)).trans ((zs_ne (by decide)).trans ((zs_ne (by decide)).trans ((zs_ne (by decide)).trans zs_self))))) (by decide) rfl rfl (mi' := mi) (ml' := ml) (q' := (2, 6)) (sh' := zs_up _ 5 (.inl (0, [(2, 1), (2, 4), (2, 6), (3, 0), (3, 0), (3, 0), (3, 0), (3, 0), (0, 0), (0, 0), (0, 0), (0, 0), (0, 0), (0, 0), (0, 0)]))) rfl (fun _ _ _ => rfl) (fun _ _ _ => rfl) zs_self (fun i hi => zs_ne hi) d_Course_init_32 (fun H locs hB => ?_)
  refine lv_aload_n hx hb d_Course_init_35 rfl (lv_at hl 0 rfl) ?_
  refine lv_aload_n hx hb d_Course_init_36 rfl (lv_at hl 1 rfl) ?_
  refine zw_getI X hB fl_Course_17 1 ((zs_ne (by decide)).trans ((zs_ne (by decide)).trans ((zs_ne (by decide)).trans ((zs_ne (by decide)).trans ((zs_ne (by decide)).trans ((zs_ne (by decide)).trans ((zs_ne (by decide)).trans ((zs_ne (by decide)).trans ((zs_ne (by decide)).trans ((zs_ne (by decide)).trans ((zs_ne (by decide)).trans (hk1)))))))))))) rfl d_Course_init_37 ?_
  rw [en]
  refine zw_newI X hB kw_int 23 ((ha 23).trans ((zo_23 n z0).trans (by omega))) (fun j => h0 23 j (by omega)) (nI_nneg (by omega)) (nI_clamp (by omega)) (by omega) (sh' := zs_up _ 23 (.inr (0, n, 0))) zs_self (fun i hi => zs_ne hi) (show 0 + 1 + 1 + 1 + 2 + 1 ≤ 60 by omega) (show 0 + 3 + 16 + 3 + 32 + n ≤ 1100 by omega) d_Course_init_40 (fun H hB => ?_)
  refine zw_put X hB fp_Course_37 (fun _ => hnm) 5 ((zs_ne (by decide)).trans zs_self) (by decide) rfl rfl (mi' := mi) (ml' := ml) (q' := (2, 23)) (sh' := zs_up _ 5 (.inl (0, [(2, 1), (2, 4), (2, 6), (2, 23), (3, 0), (3, 0), (3, 0), (3, 0), (0, 0), (0, 0), (0, 0), (0, 0), (0, 0), (0, 0), (0, 0)]))) rfl (fun _ _ _ => rfl) (fun _ _ _ => rfl) zs_self (fun i hi => zs_ne hi) d_Course_init_42 (fun H locs hB => ?_)
  refine lv_aload_n hx hb d_Course_init_45 rfl (lv_at hl 0 rfl) ?_
  refine lv_aload_n hx hb d_Course_init_46 rfl (lv_at hl 1 rfl) ?_
  refine zw_getI X hB fl_Course_17 1 ((zs_ne (by decide)).trans ((zs_ne (by decide)).trans ((zs_ne (by decide)).trans ((zs_ne (by decide)).trans ((zs_ne (by decide)).trans ((zs_ne (by decide)).trans ((zs_ne (by decide)).trans ((zs_ne (by decide)).trans ((zs_ne (by decide)).trans ((zs_ne (by decide)).trans ((zs_ne (by decide)).trans ((zs_ne (by decide)).trans ((zs_ne (by decide)).trans (hk1)))))))))))))) rfl d_Course_init_47 ?_
  rw [en]
  refine lv_bipush (v := 21) hx hb d_Course_init_50 (by decide) ?_
  refine zw_multi X hB (Or.inr ⟨rfl, rfl, rfl⟩) kl_Course_41 kv_long kw_long 24 112 ((ha 24).trans ((zo_24 n z0).trans (by omega))) (fun i hi => ((ha _).trans ((zo_r3 (by omega)).trans (by omega)))) (fun i j hi => h0 _ j (by omega)) (fun i j hi => h1 _ j (by omega)) (nI_nneg (by omega)) (by decide) (nI_clamp (by omega)) (by decide) (by omega) (by omega) (sh' := zs_upg (zs_up _ 24 (.inr (4, n, 112))) 112 (n) (.inr (1, 21, 0))) ((zs_gne (Or.inl (by decide))).trans zs_self) (fun i hi => zs_gself hi) zs_gcase (show 0 + 1 + 1 + 1 + 2 + 1 + (1 + n) ≤ 60 by omega) (show 0 + 3 + 16 + 3 + 32 + n + (n + n * 21) ≤ 1100 by omega) d_Course_init_52 (fun H hB => ?_)
  refine zw_put X hB fp_Course_43 (fun _ => hnm) 5 ((zs_gne (Or.inl (by decide))).trans ((zs_ne (by decide)).trans zs_self)) (by decide) rfl rfl (mi' := mi) (ml' := ml) (q' := (2, 24)) (sh' := zs_up _ 5 (.inl (0, [(2, 1), (2, 4), (2, 6), (2, 23), (2, 24), (3, 0), (3, 0), (3, 0), (0, 0), (0, 0), (0, 0), (0, 0), (0, 0), (0, 0), (0, 0)]))) rfl (fun _ _ _ => rfl) (fun _ _ _ => rfl) zs_self (fun i hi => zs_ne hi) d_Course_init_56 (fun H locs hB => ?_)
  refine lv_aload_n hx hb d_Course_init_59 rfl (lv_at hl 0 rfl) ?_
  refine lv_aload_n hx hb d_Course_init_60 rfl (lv_at hl 1 rfl) ?_
  refine zw_getI X hB fl_Course_17 1 ((zs_ne (by decide)).trans ((zs_gne (Or.inl (by decide))).trans ((zs_ne (by decide)).trans ((zs_ne (by decide)).trans ((zs_ne (by decide)).trans ((zs_ne (by decide)).trans ((zs_ne (by decide)).trans ((zs_ne (by decide)).trans ((zs_ne (by decide)).trans ((zs_ne (by decide)).trans ((zs_ne (by decide)).trans ((zs_ne (by decide)).trans ((zs_ne (by decide)).trans ((zs_ne (by decide)).trans ((zs_ne (by decide)).trans ((zs_ne (by decide)).trans (hk1))))))))))))))))) rfl d_Course_init_61 ?_
  rw [en]
  refine zw_newI X hB kw_int 25 ((ha 25).trans ((zo_25 n z0).trans (by omega))) (fun j => h0 25 j (by omega)) (nI_nneg (by omega)) (nI_clamp (by omega)) (by omega) (sh' := zs_up _ 25 (.inr (0, n, 0))) zs_self (fun i hi => zs_ne hi) (show 0 + 1 + 1 + 1 + 2 + 1 + 1 + n + 1 ≤ 60 by omega) (show 0 + 3 + 16 + 3 + 32 + n + n + n * 21 + n ≤ 1100 by omega) d_Course_init_64 (fun H hB => ?_)
  refine zw_put X hB fp_Course_46 (fun _ => hnm) 5 ((zs_ne (by decide)).trans zs_self) (by decide) rfl rfl (mi' := mi) (ml' := ml) (q' := (2, 25)) (sh' := zs_up _ 5 (.inl (0, [(2, 1), (2, 4), (2, 6), (2, 23), (2, 24), (2, 25), (3, 0), (3, 0), (0, 0), (0, 0), (0, 0), (0, 0), (0, 0), (0, 0), (0, 0)]))) rfl (fun _ _ _ => rfl) (fun _ _ _ => rfl) zs_self (fun i hi => zs_ne hi) d_Course_init_66 (fun H locs hB => ?_)
  refine lv_aload_n hx hb d_Course_init_69 rfl (lv_at hl 0 rfl) ?_
  refine lv_aload_n hx hb d_Course_init_70 rfl (lv_at hl 1 rfl) ?_
  refine zw_getI X hB fl_Course_17 1 ((zs_ne (by decide)).trans ((zs_ne (by decide)).trans ((zs_ne (by decide)).trans ((zs_gne (Or.inl (by decide))).trans ((zs_ne (by decide)).trans ((zs_ne (by decide)).trans ((zs_ne (by decide)).trans ((zs_ne (by decide)).trans ((zs_ne (by decide)).trans ((zs_ne (by decide)).trans ((zs_ne (by decide)).trans ((zs_ne (by decide)).trans ((zs_ne (by decide)).trans ((zs_ne (by decide)).trans ((zs_ne (by decide)).trans ((zs_ne (by decide)).trans ((zs_ne (by decide)).trans ((zs_ne (by decide)).trans (hk1))))))))))))))))))) rfl d_Course_init_71 ?_
  rw [en]
  refine lv_aload_n hx hb d_Course_init_74 rfl (lv_at hl 1 rfl) ?_
  refine zw_getI X hB fl_Course_17 1 ((zs_ne (by decide)).trans ((zs_ne (by decide)).trans ((zs_ne (by decide)).trans ((zs_gne (Or.inl (by decide))).trans ((zs_ne (by decide)).trans ((zs_ne (by decide)).trans ((zs_ne (by decide)).trans ((zs_ne (by decide)).trans ((zs_ne (by decide)).trans ((zs_ne (by decide)).trans ((zs_ne (by decide)).trans ((zs_ne (by decide)).trans ((zs_ne (by decide)).trans ((zs_ne (by decide)).trans ((zs_ne (by decide)).trans ((zs_ne (by decide)).trans ((zs_ne (by decide)).trans ((zs_ne (by decide)).trans (hk1))))))))))))))))))) rfl d_Course_init_75 ?_
  rw [en]
  refine zw_multi X hB (Or.inl ⟨rfl, rfl, rfl⟩) kl_Course_49 kv_int kw_int 26 128 ((ha 26).trans ((zo_26 n z0).trans (by omega))) (fun i hi => ((ha _).trans ((zo_r4 (by omega)).trans (by omega)))) (fun i j hi => h0 _ j (by omega)) (fun i j hi => h1 _ j (by omega)) (nI_nneg (by omega)) (nI_nneg (by omega)) (nI_clamp (by omega)) (nI_clamp (by omega)) (by omega) (by omega) (sh' := zs_upg (zs_up _ 26 (.inr (3, n, 128))) 128 (n) (.inr (0, n, 0))) ((zs_gne (Or.inl (by decide))).trans zs_self) (fun i hi => zs_gself hi) zs_gcase (show 0 + 1 + 1 + 1 + 2 + 1 + 1 + n + 1 + (1 + n) ≤ 60 by omega) (show 0 + 3 + 16 + 3 + 32 + n + n + n * 21 + n + (n + n * n) ≤ 1100 by omega) d_Course_init_78 (fun H hB => ?_)
  refine zw_put X hB fp_Course_51 (fun _ => hnm) 5 ((zs_gne (Or.inl (by decide))).trans ((zs_ne (by decide)).trans zs_self)) (by decide) rfl rfl (mi' := mi) (ml' := ml) (q' := (2, 26)) (sh' := zs_up _ 5 (.inl (0, [(2, 1), (2, 4), (2, 6), (2, 23), (2, 24), (2, 25), (2, 26), (3, 0), (0, 0), (0, 0), (0, 0), (0, 0), (0, 0), (0, 0), (0, 0)]))) rfl (fun _ _ _ => rfl) (fun _ _ _ => rfl) zs_self (fun i hi => zs_ne hi) d_Course_init_82 (fun H locs hB => ?_)
  refine lv_aload_n hx hb d_Course_init_85 rfl (lv_at hl 0 rfl) ?_
  refine lv_aload_n hx hb d_Course_init_86 rfl (lv_at hl 1 rfl) ?_
  refine zw_getI X hB fl_Course_17 1 ((zs_ne (by decide)).trans ((zs_gne (Or.inl (by decide))).trans ((zs_ne (by decide)).trans ((zs_ne (by decide)).trans ((zs_ne (by decide)).trans ((zs_ne (by decide)).trans ((zs_gne (Or.inl (by decide))).trans ((zs_ne (by decide)).trans ((zs_ne (by decide)).trans ((zs_ne (by decide)).trans ((zs_ne (by decide)).trans ((zs_ne (by decide)).trans ((zs_ne (by decide)).trans ((zs_ne (by decide)).trans ((zs_ne (by decide)).trans ((zs_ne (by decide)).trans ((zs_ne (by decide)).trans ((zs_ne (by decide)).trans ((zs_ne (by decide)).trans ((zs_ne (by decide)).trans ((zs_ne (by decide)).trans (hk1)))))))))))))))))))))) rfl d_Course_init_87 ?_
  rw [en]
  refine zw_newI X hB kw_int 27 ((ha 27).trans ((zo_27 n z0).trans (by omega))) (fun j => h0 27 j (by omega)) (nI_nneg (by omega)) (nI_clamp (by omega)) (by omega) (sh' := zs_up _ 27 (.inr (0, n, 0))) zs_self (fun i hi => zs_ne hi) (show 0 + 1 + 1 + 1 + 2 + 1 + 1 + n + 1 + 1 + n + 1 ≤ 60 by omega) (show 0 + 3 + 16 + 3 + 32 + n + n + n * 21 + n + n + n * n + n ≤ 1100 by omega) d_Course_init_90 (fun H hB => ?_)
  refine zw_put X hB fp_Course_54 (fun _ => hnm) 5 ((zs_ne (by decide)).trans zs_self) (by decide) rfl rfl (mi' := mi) (ml' := ml) (q' := (2, 27)) (sh' := zs_up _ 5 (.inl (0, [(2, 1), (2, 4), (2, 6), (2, 23), (2, 24), (2, 25), (2, 26), (2, 27), (0, 0), (0, 0), (0, 0), (0, 0), (0, 0), (0, 0), (0, 0)]))) rfl (fun _ _ _ => rfl) (fun _ _ _ => rfl) zs_self (fun i hi => zs_ne hi) d_Course_init_92 (fun H locs hB => ?_)
  exact zc_vretW X hr hlocks (hB.to (show _ = z0 + (27 + 5 * n) by omega)) rfl rfl rfl (show 0 + 1 + 1 + 1 + 2 + 1 + 1 + n + 1 + 1 + n + 1 ≤ 60 by omega) (show 0 + 3 + 16 + 3 + 32 + n + n + n * 21 + n + n + n * n + n ≤ 1100 by omega) d_Course_init_95

abbrev shK_TS_init (n : Nat) (sh : zw_Sh) : zw_Sh := (zs_up (zs_up (zs_up (zs_up (zs_up (zs_up (zs_up (zs_up (zs_upg (zs_up (zs_up (zs_up (zs_up (zs_upg (zs_up (zs_up (zs_up (zs_up (zs_up (zs_up (zs_up (zs_up (zs_up (zs_up (zs_up (zs_up (zs_up (zs_up (zs_up (zs_up (zs_up (zs_up (zs_up (zs_up (zs_up (zs_up (zs_up (zs_up (zs_up (zs_up (zs_up (zs_up (zs_up (zs_up (zs_upg (zs_up (zs_up (zs_upg (zs_up (zs_up (zs_upg (zs_up (zs_up (zs_up (zs_up (zs_up (zs_up (zs_up (zs_up (zs_up (zs_up (zs_up sh 1 (.inl (5, [(0, 0), (0, 0), (3, 0), (3, 0), (3, 0), (3, 0), (3, 0), (0, 0)]))) 7 (.inr (0, n, 0))) 1 (.inl (5, [(0, 0), (0, 0), (2, 7), (3, 0), (3, 0), (3, 0), (3, 0), (0, 0)]))) 8 (.inr (0, n, 0))) 1 (.inl (5, [(0, 0), (0, 0), (2, 7), (2, 8), (3, 0), (3, 0), (3, 0), (0, 0)]))) 9 (.inr (1, n, 0))) 1 (.inl (5, [(0, 0), (0, 0), (2, 7), (2, 8), (2, 9), (3, 0), (3, 0), (0, 0)]))) 2 (.inl (4, [(3, 0), (3, 0), (3, 0), (3, 0)]))) 10 (.inr (0, n, 0))) 2 (.inl (4, [(2, 10), (3, 0), (3, 0), (3, 0)]))) 11 (.inr (3, n, 64))) 64 (n) (.inr (0, 6, 0))) 2 (.inl (4, [(2, 10), (2, 11), (3, 0), (3, 0)]))) 12 (.inr (3, n, 80))) 80 (n) (.inr (0, 6, 0))) 2 (.inl (4, [(2, 10), (2, 11), (2, 12), (3, 0)]))) 13 (.inr (3, n, 96))) 96 (n) (.inr (0, 6, 0))) 2 (.inl (4, [(2, 10), (2, 11), (2, 12), (2, 13)]))) 1 (.inl (5, [(0, 0), (0, 0), (2, 7), (2, 8), (2, 9), (2, 2), (3, 0), (0, 0)]))) 3 (.inl (2, [(3, 0), (3, 0), (3, 0), (3, 0), (3, 0), (0, 0)]))) 14 (.inr (0, 8, 0))) 3 (.inl (2, [(2, 14), (3, 0), (3, 0), (3, 0), (3, 0), (0, 0)]))) 15 (.inr (0, 8, 0))) 3 (.inl (2, [(2, 14), (2, 15), (3, 0), (3, 0), (3, 0), (0, 0)]))) 16 (.inr (0, 8, 0))) 3 (.inl (2, [(2, 14), (2, 15), (2, 16), (3, 0), (3, 0), (0, 0)]))) 17 (.inr (0, 8, 0))) 3 (.inl (2, [(2, 14), (2, 15), (2, 16), (2, 17), (3, 0), (0, 0)]))) 18 (.inr (0, 8, 0))) 3 (.inl (2, [(2, 14), (2, 15), (2, 16), (2, 17), (2, 18), (0, 0)]))) 1 (.inl (5, [(0, 0), (0, 0), (2, 7), (2, 8), (2, 9), (2, 2), (2, 3), (0, 0)]))) 0 (.inl (6, [(2, 1), (3, 0), (3, 0), (3, 0)]))) 5 (.inl (0, [(3, 0), (3, 0), (3, 0), (3, 0), (3, 0), (3, 0), (3, 0), (3, 0), (0, 0), (0, 0), (0, 0), (0, 0), (0, 0), (0, 0), (0, 0)]))) 5 (.inl (0, [(2, 1), (3, 0), (3, 0), (3, 0), (3, 0), (3, 0), (3, 0), (3, 0), (0, 0), (0, 0), (0, 0), (0, 0), (0, 0), (0, 0), (0, 0)]))) 4 (.inl (3, [(3, 0), (0, 0), (0, 0)]))) 22 (.inr (0, n, 0))) 4 (.inl (3, [(2, 22), (0, 0), (0, 0)]))) 5 (.inl (0, [(2, 1), (2, 4), (3, 0), (3, 0), (3, 0), (3, 0), (3, 0), (3, 0), (0, 0), (0, 0), (0, 0), (0, 0), (0, 0), (0, 0), (0, 0)]))) 6 (.inl (1, [(3, 0), (3, 0), (0, 0)]))) 28 (.inr (0, 16, 0))) 6 (.inl (1, [(2, 28), (3, 0), (0, 0)]))) 29 (.inr (0, 16, 0))) 6 (.inl (1, [(2, 28), (2, 29), (0, 0)]))) 5 (.inl (0, [(2, 1), (2, 4), (2, 6), (3, 0), (3, 0), (3, 0), (3, 0), (3, 0), (0, 0), (0, 0), (0, 0), (0, 0), (0, 0), (0, 0), (0, 0)]))) 23 (.inr (0, n, 0))) 5 (.inl (0, [(2, 1), (2, 4), (2, 6), (2, 23), (3, 0), (3, 0), (3, 0), (3, 0), (0, 0), (0, 0), (0, 0), (0, 0), (0, 0), (0, 0), (0, 0)]))) 24 (.inr (4, n, 112))) 112 (n) (.inr (1, 21, 0))) 5 (.inl (0, [(2, 1), (2, 4), (2, 6), (2, 23), (2, 24), (3, 0), (3, 0), (3, 0), (0, 0), (0, 0), (0, 0), (0, 0), (0, 0), (0, 0), (0, 0)]))) 25 (.inr (0, n, 0))) 5 (.inl (0, [(2, 1), (2, 4), (2, 6), (2, 23), (2, 24), (2, 25), (3, 0), (3, 0), (0, 0), (0, 0), (0, 0), (0, 0), (0, 0), (0, 0), (0, 0)]))) 26 (.inr (3, n, 128))) 128 (n) (.inr (0, n, 0))) 5 (.inl (0, [(2, 1), (2, 4), (2, 6), (2, 23), (2, 24), (2, 25), (2, 26), (3, 0), (0, 0), (0, 0), (0, 0), (0, 0), (0, 0), (0, 0), (0, 0)]))) 27 (.inr (0, n, 0))) 5 (.inl (0, [(2, 1), (2, 4), (2, 6), (2, 23), (2, 24), (2, 25), (2, 26), (2, 27), (0, 0), (0, 0), (0, 0), (0, 0), (0, 0), (0, 0), (0, 0)]))) 0 (.inl (6, [(2, 1), (2, 5), (3, 0), (3, 0)]))) 20 (.inr (2, n, 0))) 0 (.inl (6, [(2, 1), (2, 5), (2, 20), (3, 0)]))) 21 (.inr (1, n, 0))) 0 (.inl (6, [(2, 1), (2, 5), (2, 20), (2, 21)])))
set_option maxHeartbeats 4000000 in
set_option maxRecDepth 100000 in
theorem c_TS_init {l : Launch} {D : va_G} {cA : Nat → ClassId} {ad : Nat → Nat} {sh : zw_Sh} {n : Nat} (hn : n ≤ 16) {z0 : Nat} (ha : ∀ k, ad k = zo n z0 k) (hk : sh 0 = some (.inl (6, [(3, 0), (3, 0), (3, 0), (3, 0)]))) (x y : Int32) (hnx : p_nearest x 1 16 = nI n)  :
    zc_M l D cA Y_TS_init 3 200 2000 ad sh (shK_TS_init n sh) (z0 + (1)) [.ref (ad 0), .int x, .int y] (fun _ _ => 0) (fun _ _ => 0) none ((p_reset n (n + 1) 0 (zw_up (zw_up (fun _ _ => 0) 1 0 (nI n)) 1 1 (p_nearest y 1 1000)) (fun _ _ => 0)).1) ((p_reset n (n + 1) 0 (zw_up (zw_up (fun _ _ => 0) 1 0 (nI n)) 1 1 (p_nearest y 1 1000)) (fun _ _ => 0)).2) (z0 + (29 + 5 * n)) := by
  refine zc_enter (own := R_TS) (by decide) rfl (Nat.le_of_ble_eq_true rfl) ?_
  intro p e s m below meth c X hr hlocks hnm hB ls hl
  have X : zw_C D cA R_TS prog_1_method_1_code 4 p m c s := X
  have hr : meth.sig.returnType = none := hr
  have hx := X.1
  have hb := X.2.1
  have hnn := zo_nn hn
  have hl : lv_has ls 4 [(0, .ref (ad 0)), (1, .int x), (2, .int y)] := hl
  have h0 : ∀ k j : Nat, k = k → (fun _ _ => 0 : Nat → Nat → Int32) k j = 0 := fun _ _ _ => rfl
  have h1 : ∀ k j : Nat, k = k → (fun _ _ => 0 : Nat → Nat → Int64) k j = 0 := fun _ _ _ => rfl
  refine lv_aload_n hx hb d_TS_init_0 rfl (lv_at hl 0 rfl) ?_
  refine W.objInit hx hb X.2.2.2.1 (X.2.2.2.2.ts _ ko_TS_1) (X.2.2.2.2.ts _ ko_in) (X.2.2.2.2.ts _ ko_co) rfl (by rw [X.2.2.1]; exact hl.1) rfl d_TS_init_1 (Nat.le_of_ble_eq_true rfl) (Nat.le_of_ble_eq_true rfl) ?_
  show W p l e _ s m _ below meth c _ _ _ _ _ (F0 m 4 ls [])
  refine lv_iload_n hx hb d_TS_init_4 rfl (lv_at hl 1 rfl) ?_
  refine lv_iconst (v := 1) hx hb d_TS_init_5 (by decide) ?_
  refine lv_bipush (v := 16) hx hb d_TS_init_6 (by decide) ?_
  refine zw_callSr X hB mv_TS_9 (c_TS_nearestP (n := 0) (Nat.zero_le _) (fun _ _ h => by cases h) (z0 + (1)) (fun _ _ => 0) (fun _ _ => 0) x 1 16) rfl hl.1 ⟨Nat.le_of_ble_eq_true rfl, Nat.le_of_ble_eq_true rfl⟩ rfl (Nat.le_of_ble_eq_true rfl) ⟨show 0 + 0 ≤ 200 by omega, show 0 + 0 ≤ 2000 by omega⟩ d_TS_init_8 (fun H locs hB => ?_)
  rw [hnx]
  refine lv_istore_n (lv' := [(3, .int (nI n)), (0, .ref (ad 0)), (1, .int x), (2, .int y)]) hx hb d_TS_init_11 rfl hl (by decide) rfl (fun ls hl => ?_)
  refine lv_aload_n hx hb d_TS_init_12 rfl (lv_at hl 1 rfl) ?_
  refine zw_new X hB nl_TS_13 1 ((ha 1).trans ((zo_1 n z0).trans (by omega))) (fun j => h0 1 j (by omega)) (fun j => h1 1 j (by omega)) (sh' := zs_up _ 1 (.inl (5, [(0, 0), (0, 0), (3, 0), (3, 0), (3, 0), (3, 0), (3, 0), (0, 0)]))) zs_self (fun i hi => zs_ne hi) (show 0 + 0 + 1 ≤ 200 by omega) (show 0 + 0 + 8 ≤ 2000 by omega) d_TS_init_13 (fun H hB => ?_)
  refine lv_dup hx hb d_TS_init_16 rfl ?_
  refine lv_iload_n hx hb d_TS_init_17 rfl (lv_at hl 0 rfl) ?_
  refine lv_iload_n hx hb d_TS_init_18 rfl (lv_at hl 3 rfl) ?_
  refine lv_iconst (v := 1) hx hb d_TS_init_19 (by decide) ?_
  refine lv_sipush (v := 1000) hx hb d_TS_init_20 (by decide) ?_
  refine zw_callSr X hB mv_TS_9 (c_TS_nearestP (n := 0) (Nat.zero_le _) (fun _ _ h => by cases h) (z0 + (1) + 1) (fun _ _ => 0) (fun _ _ => 0) y 1 1000) rfl hl.1 ⟨Nat.le_of_ble_eq_true rfl, Nat.le_of_ble_eq_true rfl⟩ rfl (Nat.le_of_ble_eq_true rfl) ⟨show 0 + 0 + 1 + 0 ≤ 200 by omega, show 0 + 0 + 8 + 0 ≤ 2000 by omega⟩ d_TS_init_23 (fun H locs hB => ?_)
  refine zw_callIv X (hB.to (show _ = z0 + (2) by omega)) mv_TS_15 (c_Plan_init hn ha zs_self (p_nearest y 1 1000)) rfl hl.1 ⟨Nat.le_of_ble_eq_true rfl, Nat.le_of_ble_eq_true rfl⟩ rfl (Nat.le_of_ble_eq_true rfl) ⟨show 0 + 0 + 1 + 0 + 100 ≤ 200 by omega, show 0 + 0 + 8 + 0 + 700 ≤ 2000 by omega⟩ d_TS_init_26 (fun H locs hB => ?_)
  have h0 : ∀ k j : Nat, k ≠ 1 ∧ k ≠ 3 ∧ k ≠ 7 ∧ k ≠ 8 ∧ k ≠ 10 → ((p_reset n (n + 1) 0 (zw_up (zw_up (fun _ _ => 0) 1 0 (nI n)) 1 1 (p_nearest y 1 1000)) (fun _ _ => 0)).1) k j = 0 := fun k j h => by rw [p_reset_off1 h.2.2.1 h.2.2.2.1 h.2.2.2.2 h.2.1 (Or.inl h.1), zw_up_ne1 _ _ _ h.1, zw_up_ne1 _ _ _ h.1]
  have h1 : ∀ k j : Nat, k ≠ 9 → ((p_reset n (n + 1) 0 (zw_up (zw_up (fun _ _ => 0) 1 0 (nI n)) 1 1 (p_nearest y 1 1000)) (fun _ _ => 0)).2) k j = 0 := fun k j h => by rw [p_reset_off2 h]
  have en : ((p_reset n (n + 1) 0 (zw_up (zw_up (fun _ _ => 0) 1 0 (nI n)) 1 1 (p_nearest y 1 1000)) (fun _ _ => 0)).1) 1 0 = nI n := by rw [p_reset_off1 (by decide) (by decide) (by decide) (by decide) (Or.inr (by decide))]; rfl
  refine zw_put X hB fp_TS_18 (fun _ => hnm) 0 ((zs_ne (by decide)).trans ((zs_ne (by decide)).trans ((zs_ne (by decide)).trans ((zs_ne (by decide)).trans ((zs_ne (by decide)).trans ((zs_ne (by decide)).trans ((zs_ne (by decide)).trans ((zs_ne (by decide)).trans ((zs_ne (by decide)).trans ((zs_ne (by decide)).trans ((zs_ne (by decide)).trans ((zs_ne (by decide)).trans ((zs_ne (by decide)).trans ((zs_ne (by decide)).trans ((zs_gne (Or.inl (by decide))).trans ((zs_ne (by decide)).trans ((zs_ne (by decide)).trans ((zs_gne (Or.inl (by decide))).trans ((zs_ne (by decide)).trans ((zs_ne (by decide)).trans ((zs_gne (Or.inl (by decide))).trans ((zs_ne (by decide)).trans ((zs_ne (by decide)).trans ((zs_ne (by decide)).trans ((zs_ne (by decide)).trans ((zs_ne (by decide)).trans ((zs_ne (by decide)).trans ((zs_ne (by decide)).trans ((zs_ne (by decide)).trans ((zs_ne (by decide)).trans ((zs_ne (by decide)).trans ((zs_ne (by decide)).trans (hk))))))))))))))))))))))))))))))))) (by decide) rfl rfl (mi' := ((p_reset n (n + 1) 0 (zw_up (zw_up (fun _ _ => 0) 1 0 (nI n)) 1 1 (p_nearest y 1 1000)) (fun _ _ => 0)).1)) (ml' := ((p_reset n (n + 1) 0 (zw_up (zw_up (fun _ _ => 0) 1 0 (nI n)) 1 1 (p_nearest y 1 1000)) (fun _ _ => 0)).2)) (q' := (2, 1)) (sh' := zs_up _ 0 (.inl (6, [(2, 1), (3, 0), (3, 0), (3, 0)]))) rfl (fun _ _ _ => rfl) (fun _ _ _ => rfl) zs_self (fun i hi => zs_ne hi) d_TS_init_29 (fun H locs hB => ?_)
  refine lv_aload_n hx hb d_TS_init_32 rfl (lv_at hl 1 rfl) ?_
  refine zw_new X hB nl_TS_22 5 ((ha 5).trans ((zo_5 n z0).trans (by omega))) (fun j => h0 5 j (by omega)) (fun j => h1 5 j (by omega)) (sh' := zs_up _ 5 (.inl (0, [(3, 0), (3, 0), (3, 0), (3, 0), (3, 0), (3, 0), (3, 0), (3, 0), (0, 0), (0, 0), (0, 0), (0, 0), (0, 0), (0, 0), (0, 0)]))) zs_self (fun i hi => zs_ne hi) (show 0 + 0 + 1 + 0 + 100 + 1 ≤ 200 by omega) (show 0 + 0 + 8 + 0 + 700 + 15 ≤ 2000 by omega) d_TS_init_33 (fun H hB => ?_)
  refine lv_dup hx hb d_TS_init_36 rfl ?_
  refine lv_aload_n hx hb d_TS_init_37 rfl (lv_at hl 1 rfl) ?_
  refine zw_getR X hB fl_TS_18 0 ((zs_ne (by decide)).trans zs_self) rfl d_TS_init_38 ?_
  refine zw_callIv X (hB.to (show _ = z0 + (17 + 3 * n) by omega)) mv_TS_24 (c_Course_init hn ha zs_self ((p_reset n (n + 1) 0 (zw_up (zw_up (fun _ _ => 0) 1 0 (nI n)) 1 1 (p_nearest y 1 1000)) (fun _ _ => 0)).1) ((p_reset n (n + 1) 0 (zw_up (zw_up (fun _ _ => 0) 1 0 (nI n)) 1 1 (p_nearest y 1 1000)) (fun _ _ => 0)).2) h0 h1 ((zs_ne (by decide)).trans ((zs_ne (by decide)).trans zs_self)) en) rfl hl.1 ⟨Nat.le_of_ble_eq_true rfl, Nat.le_of_ble_eq_true rfl⟩ rfl (Nat.le_of_ble_eq_true rfl) ⟨show 0 + 0 + 1 + 0 + 100 + 1 + 60 ≤ 200 by omega, show 0 + 0 + 8 + 0 + 700 + 15 + 1100 ≤ 2000 by omega⟩ d_TS_init_41 (fun H locs hB => ?_)
  refine zw_put X hB fp_TS_27 (fun _ => hnm) 0 ((zs_ne (by decide)).trans ((zs_ne (by decide)).trans ((zs_ne (by decide)).trans ((zs_gne (Or.inl (by decide))).trans ((zs_ne (by decide)).trans ((zs_ne (by decide)).trans ((zs_ne (by decide)).trans ((zs_ne (by decide)).trans ((zs_gne (Or.inl (by decide))).trans ((zs_ne (by decide)).trans ((zs_ne (by decide)).trans ((zs_ne (by decide)).trans ((zs_ne (by decide)).trans ((zs_ne (by decide)).trans ((zs_ne (by decide)).trans ((zs_ne (by decide)).trans ((zs_ne (by decide)).trans ((zs_ne (by decide)).trans ((zs_ne (by decide)).trans ((zs_ne (by decide)).trans ((zs_ne (by decide)).trans ((zs_ne (by decide)).trans ((zs_ne (by decide)).trans ((zs_ne (by decide)).trans zs_self)))))))))))))))))))))))) (by decide) rfl rfl (mi' := ((p_reset n (n + 1) 0 (zw_up (zw_up (fun _ _ => 0) 1 0 (nI n)) 1 1 (p_nearest y 1 1000)) (fun _ _ => 0)).1)) (ml' := ((p_reset n (n + 1) 0 (zw_up (zw_up (fun _ _ => 0) 1 0 (nI n)) 1 1 (p_nearest y 1 1000)) (fun _ _ => 0)).2)) (q' := (2, 5)) (sh' := zs_up _ 0 (.inl (6, [(2, 1), (2, 5), (3, 0), (3, 0)]))) rfl (fun _ _ _ => rfl) (fun _ _ _ => rfl) zs_self (fun i hi => zs_ne hi) d_TS_init_44 (fun H locs hB => ?_)
  refine lv_aload_n hx hb d_TS_init_47 rfl (lv_at hl 1 rfl) ?_
  refine lv_iload_n hx hb d_TS_init_48 rfl (lv_at hl 0 rfl) ?_
  refine zw_newZ X hB kw_boolean 20 ((ha 20).trans ((zo_20 n z0).trans (by omega))) (fun j => h0 20 j (by omega)) (nI_nneg (by omega)) (nI_clamp (by omega)) (by omega) (sh' := zs_up _ 20 (.inr (2, n, 0))) zs_self (fun i hi => zs_ne hi) (show 0 + 0 + 1 + 0 + 100 + 1 + 60 + 1 ≤ 200 by omega) (show 0 + 0 + 8 + 0 + 700 + 15 + 1100 + n ≤ 2000 by omega) d_TS_init_49 (fun H hB => ?_)
  refine zw_put X hB fp_TS_31 (fun _ => hnm) 0 ((zs_ne (by decide)).trans zs_self) (by decide) rfl rfl (mi' := ((p_reset n (n + 1) 0 (zw_up (zw_up (fun _ _ => 0) 1 0 (nI n)) 1 1 (p_nearest y 1 1000)) (fun _ _ => 0)).1)) (ml' := ((p_reset n (n + 1) 0 (zw_up (zw_up (fun _ _ => 0) 1 0 (nI n)) 1 1 (p_nearest y 1 1000)) (fun _ _ => 0)).2)) (q' := (2, 20)) (sh' := zs_up _ 0 (.inl (6, [(2, 1), (2, 5), (2, 20), (3, 0)]))) rfl (fun _ _ _ => rfl) (fun _ _ _ => rfl) zs_self (fun i hi => zs_ne hi) d_TS_init_51 (fun H locs hB => ?_)
  refine lv_aload_n hx hb d_TS_init_54 rfl (lv_at hl 1 rfl) ?_
  refine lv_iload_n hx hb d_TS_init_55 rfl (lv_at hl 0 rfl) ?_
  refine zw_newJ X hB kw_long 21 ((ha 21).trans ((zo_21 n z0).trans (by omega))) (fun j => h1 21 j (by omega)) (nI_nneg (by omega)) (nI_clamp (by omega)) (by omega) (sh' := zs_up _ 21 (.inr (1, n, 0))) zs_self (fun i hi => zs_ne hi) (show 0 + 0 + 1 + 0 + 100 + 1 + 60 + 1 + 1 ≤ 200 by omega) (show 0 + 0 + 8 + 0 + 700 + 15 + 1100 + n + n ≤ 2000 by omega) d_TS_init_56 (fun H hB => ?_)
  refine zw_put X hB fp_TS_35 (fun _ => hnm) 0 ((zs_ne (by decide)).trans zs_self) (by decide) rfl rfl (mi' := ((p_reset n (n + 1) 0 (zw_up (zw_up (fun _ _ => 0) 1 0 (nI n)) 1 1 (p_nearest y 1 1000)) (fun _ _ => 0)).1)) (ml' := ((p_reset n (n + 1) 0 (zw_up (zw_up (fun _ _ => 0) 1 0 (nI n)) 1 1 (p_nearest y 1 1000)) (fun _ _ => 0)).2)) (q' := (2, 21)) (sh' := zs_up _ 0 (.inl (6, [(2, 1), (2, 5), (2, 20), (2, 21)]))) rfl (fun _ _ _ => rfl) (fun _ _ _ => rfl) zs_self (fun i hi => zs_ne hi) d_TS_init_58 (fun H locs hB => ?_)
  exact zc_vretW X hr hlocks (hB.to (show _ = z0 + (29 + 5 * n) by omega)) rfl rfl rfl (show 0 + 0 + 1 + 0 + 100 + 1 + 60 + 1 + 1 ≤ 200 by omega) (show 0 + 0 + 8 + 0 + 700 + 15 + 1100 + n + n ≤ 2000 by omega) d_TS_init_61
theorem shK_TS_r0 {n i : Nat} (hn : n ≤ 16) {sh : zw_Sh} (h : i < n) : shK_TS_init n sh (64 + i) = some (shXr n 0) := ((zs_ne (by omega)).trans ((zs_ne (by omega)).trans ((zs_ne (by omega)).trans ((zs_ne (by omega)).trans ((zs_ne (by omega)).trans ((zs_ne (by omega)).trans ((zs_ne (by omega)).trans ((zs_ne (by omega)).trans ((zs_gne (by omega)).trans ((zs_ne (by omega)).trans ((zs_ne (by omega)).trans ((zs_ne (by omega)).trans ((zs_ne (by omega)).trans ((zs_gne (by omega)).trans ((zs_ne (by omega)).trans ((zs_ne (by omega)).trans ((zs_ne (by omega)).trans ((zs_ne (by omega)).trans ((zs_ne (by omega)).trans ((zs_ne (by omega)).trans ((zs_ne (by omega)).trans ((zs_ne (by omega)).trans ((zs_ne (by omega)).trans ((zs_ne (by omega)).trans ((zs_ne (by omega)).trans ((zs_ne (by omega)).trans ((zs_ne (by omega)).trans ((zs_ne (by omega)).trans ((zs_ne (by omega)).trans ((zs_ne (by omega)).trans ((zs_ne (by omega)).trans ((zs_ne (by omega)).trans ((zs_ne (by omega)).trans ((zs_ne (by omega)).trans ((zs_ne (by omega)).trans ((zs_ne (by omega)).trans ((zs_ne (by omega)).trans ((zs_ne (by omega)).trans ((zs_ne (by omega)).trans ((zs_ne (by omega)).trans ((zs_ne (by omega)).trans ((zs_ne (by omega)).trans ((zs_ne (by omega)).trans ((zs_ne (by omega)).trans ((zs_gne (by omega)).trans ((zs_ne (by omega)).trans ((zs_ne (by omega)).trans ((zs_gne (by omega)).trans ((zs_ne (by omega)).trans ((zs_ne (by omega)).trans (zs_gself h)))))))))))))))))))))))))))))))))))))))))))))))))))
theorem shK_TS_r1 {n i : Nat} (hn : n ≤ 16) {sh : zw_Sh} (h : i < n) : shK_TS_init n sh (80 + i) = some (shXr n 1) := ((zs_ne (by omega)).trans ((zs_ne (by omega)).trans ((zs_ne (by omega)).trans ((zs_ne (by omega)).trans ((zs_ne (by omega)).trans ((zs_ne (by omega)).trans ((zs_ne (by omega)).trans ((zs_ne (by omega)).trans ((zs_gne (by omega)).trans ((zs_ne (by omega)).trans ((zs_ne (by omega)).trans ((zs_ne (by omega)).trans ((zs_ne (by omega)).trans ((zs_gne (by omega)).trans ((zs_ne (by omega)).trans ((zs_ne (by omega)).trans ((zs_ne (by omega)).trans ((zs_ne (by omega)).trans ((zs_ne (by omega)).trans ((zs_ne (by omega)).trans ((zs_ne (by omega)).trans ((zs_ne (by omega)).trans ((zs_ne (by omega)).trans ((zs_ne (by omega)).trans ((zs_ne (by omega)).trans ((zs_ne (by omega)).trans ((zs_ne (by omega)).trans ((zs_ne (by omega)).trans ((zs_ne (by omega)).trans ((zs_ne (by omega)).trans ((zs_ne (by omega)).trans ((zs_ne (by omega)).trans ((zs_ne (by omega)).trans ((zs_ne (by omega)).trans ((zs_ne (by omega)).trans ((zs_ne (by omega)).trans ((zs_ne (by omega)).trans ((zs_ne (by omega)).trans ((zs_ne (by omega)).trans ((zs_ne (by omega)).trans ((zs_ne (by omega)).trans ((zs_ne (by omega)).trans ((zs_ne (by omega)).trans ((zs_ne (by omega)).trans ((zs_gne (by omega)).trans ((zs_ne (by omega)).trans ((zs_ne (by omega)).trans (zs_gself h))))))))))))))))))))))))))))))))))))))))))))))))
theorem shK_TS_r2 {n i : Nat} (hn : n ≤ 16) {sh : zw_Sh} (h : i < n) : shK_TS_init n sh (96 + i) = some (shXr n 2) := ((zs_ne (by omega)).trans ((zs_ne (by omega)).trans ((zs_ne (by omega)).trans ((zs_ne (by omega)).trans ((zs_ne (by omega)).trans ((zs_ne (by omega)).trans ((zs_ne (by omega)).trans ((zs_ne (by omega)).trans ((zs_gne (by omega)).trans ((zs_ne (by omega)).trans ((zs_ne (by omega)).trans ((zs_ne (by omega)).trans ((zs_ne (by omega)).trans ((zs_gne (by omega)).trans ((zs_ne (by omega)).trans ((zs_ne (by omega)).trans ((zs_ne (by omega)).trans ((zs_ne (by omega)).trans ((zs_ne (by omega)).trans ((zs_ne (by omega)).trans ((zs_ne (by omega)).trans ((zs_ne (by omega)).trans ((zs_ne (by omega)).trans ((zs_ne (by omega)).trans ((zs_ne (by omega)).trans ((zs_ne (by omega)).trans ((zs_ne (by omega)).trans ((zs_ne (by omega)).trans ((zs_ne (by omega)).trans ((zs_ne (by omega)).trans ((zs_ne (by omega)).trans ((zs_ne (by omega)).trans ((zs_ne (by omega)).trans ((zs_ne (by omega)).trans ((zs_ne (by omega)).trans ((zs_ne (by omega)).trans ((zs_ne (by omega)).trans ((zs_ne (by omega)).trans ((zs_ne (by omega)).trans ((zs_ne (by omega)).trans ((zs_ne (by omega)).trans ((zs_ne (by omega)).trans ((zs_ne (by omega)).trans ((zs_ne (by omega)).trans (zs_gself h)))))))))))))))))))))))))))))))))))))))))))))
theorem shK_TS_r3 {n i : Nat} (hn : n ≤ 16) {sh : zw_Sh} (h : i < n) : shK_TS_init n sh (112 + i) = some (shXr n 3) := ((zs_ne (by omega)).trans ((zs_ne (by omega)).trans ((zs_ne (by omega)).trans ((zs_ne (by omega)).trans ((zs_ne (by omega)).trans ((zs_ne (by omega)).trans ((zs_ne (by omega)).trans ((zs_ne (by omega)).trans ((zs_gne (by omega)).trans ((zs_ne (by omega)).trans ((zs_ne (by omega)).trans ((zs_ne (by omega)).trans ((zs_ne (by omega)).trans (zs_gself h))))))))))))))
theorem shK_TS_r4 {n i : Nat} (hn : n ≤ 16) {sh : zw_Sh} (h : i < n) : shK_TS_init n sh (128 + i) = some (shXr n 4) := ((zs_ne (by omega)).trans ((zs_ne (by omega)).trans ((zs_ne (by omega)).trans ((zs_ne (by omega)).trans ((zs_ne (by omega)).trans ((zs_ne (by omega)).trans ((zs_ne (by omega)).trans ((zs_ne (by omega)).trans (zs_gself h)))))))))
theorem shK_TS_ok {n : Nat} (hn : n ≤ 16) {sh : zw_Sh} : ∀ (k : Nat) (q : zw_Sp), shX n k = some q → shK_TS_init n sh k = some q := by
  intro k q h
  by_cases hk : k < 30
  · rcases (show k = 0 ∨ k = 1 ∨ k = 2 ∨ k = 3 ∨ k = 4 ∨ k = 5 ∨ k = 6 ∨ k = 7 ∨ k = 8 ∨ k = 9 ∨ k = 10 ∨ k = 11 ∨ k = 12 ∨ k = 13 ∨ k = 14 ∨ k = 15 ∨ k = 16 ∨ k = 17 ∨ k = 18 ∨ k = 19 ∨ k = 20 ∨ k = 21 ∨ k = 22 ∨ k = 23 ∨ k = 24 ∨ k = 25 ∨ k = 26 ∨ k = 27 ∨ k = 28 ∨ k = 29 by omega) with rfl | rfl | rfl | rfl | rfl | rfl | rfl | rfl | rfl | rfl | rfl | rfl | rfl | rfl | rfl | rfl | rfl | rfl | rfl | rfl | rfl | rfl | rfl | rfl | rfl | rfl | rfl | rfl | rfl | rfl
    all_goals first | exact h | (exact absurd h (by intro h9; cases h9))
  · unfold shX at h
    by_cases h64 : k < 64
    · rw [if_pos h64] at h
      rw [List.getD_eq_getElem?_getD, List.getElem?_eq_none (by show 30 ≤ k; omega)] at h
      cases h
    · rw [if_neg h64] at h
      by_cases h144 : k < 144
      · rw [if_pos h144] at h
        by_cases hi : (k - 64) % 16 < n
        · rw [if_pos hi] at h
          obtain ⟨i, ei⟩ : ∃ i, i = (k - 64) % 16 := ⟨_, rfl⟩
          rw [← ei] at hi
          rcases (show (k - 64) / 16 = 0 ∨ (k - 64) / 16 = 1 ∨ (k - 64) / 16 = 2 ∨ (k - 64) / 16 = 3 ∨ (k - 64) / 16 = 4 by omega) with g | g | g | g | g
          · rw [g] at h
            rw [show k = 64 + i by omega, shK_TS_r0 hn hi]
            exact h
          · rw [g] at h
            rw [show k = 80 + i by omega, shK_TS_r1 hn hi]
            exact h
          · rw [g] at h
            rw [show k = 96 + i by omega, shK_TS_r2 hn hi]
            exact h
          · rw [g] at h
            rw [show k = 112 + i by omega, shK_TS_r3 hn hi]
            exact h
          · rw [g] at h
            rw [show k = 128 + i by omega, shK_TS_r4 hn hi]
            exact h
        · rw [if_neg hi] at h
          cases h
      · rw [if_neg h144] at h
        cases h

abbrev shK_Model_init (n : Nat) (sh : zw_Sh) : zw_Sh := (zs_up (zs_up (zs_up (zs_up (zs_up (zs_up (zs_up (zs_up (zs_up (zs_up (zs_up (zs_up (zs_up (zs_up (zs_up (zs_up (zs_up (zs_up (zs_up (zs_up (zs_up (zs_up (zs_up (zs_up (zs_up (zs_up (zs_up (zs_up (zs_up (zs_up (zs_up (zs_up (zs_up (zs_up (zs_up (zs_up (zs_up (zs_up (zs_up (zs_up (zs_up (zs_up sh 33 (.inr (0, 16, 0))) 32 (.inl (7, [(0, 0), (0, 0), (0, 0), (2, 33), (3, 0), (3, 0), (3, 0), (3, 0), (3, 0), (3, 0), (3, 0), (3, 0), (3, 0), (3, 0), (3, 0), (0, 0), (0, 0), (3, 0), (3, 0), (3, 0), (3, 0), (3, 0), (3, 0), (0, 0), (0, 0), (0, 0), (3, 0), (3, 0), (3, 0), (0, 0), (0, 0), (0, 0), (0, 0), (0, 0), (0, 0), (0, 0)]))) 34 (.inr (0, 16, 0))) 32 (.inl (7, [(0, 0), (0, 0), (0, 0), (2, 33), (2, 34), (3, 0), (3, 0), (3, 0), (3, 0), (3, 0), (3, 0), (3, 0), (3, 0), (3, 0), (3, 0), (0, 0), (0, 0), (3, 0), (3, 0), (3, 0), (3, 0), (3, 0), (3, 0), (0, 0), (0, 0), (0, 0), (3, 0), (3, 0), (3, 0), (0, 0), (0, 0), (0, 0), (0, 0), (0, 0), (0, 0), (0, 0)]))) 35 (.inr (1, 16, 0))) 32 (.inl (7, [(0, 0), (0, 0), (0, 0), (2, 33), (2, 34), (2, 35), (3, 0), (3, 0), (3, 0), (3, 0), (3, 0), (3, 0), (3, 0), (3, 0), (3, 0), (0, 0), (0, 0), (3, 0), (3, 0), (3, 0), (3, 0), (3, 0), (3, 0), (0, 0), (0, 0), (0, 0), (3, 0), (3, 0), (3, 0), (0, 0), (0, 0), (0, 0), (0, 0), (0, 0), (0, 0), (0, 0)]))) 36 (.inr (0, 16, 0))) 32 (.inl (7, [(0, 0), (0, 0), (0, 0), (2, 33), (2, 34), (2, 35), (2, 36), (3, 0), (3, 0), (3, 0), (3, 0), (3, 0), (3, 0), (3, 0), (3, 0), (0, 0), (0, 0), (3, 0), (3, 0), (3, 0), (3, 0), (3, 0), (3, 0), (0, 0), (0, 0), (0, 0), (3, 0), (3, 0), (3, 0), (0, 0), (0, 0), (0, 0), (0, 0), (0, 0), (0, 0), (0, 0)]))) 37 (.inr (0, 96, 0))) 32 (.inl (7, [(0, 0), (0, 0), (0, 0), (2, 33), (2, 34), (2, 35), (2, 36), (2, 37), (3, 0), (3, 0), (3, 0), (3, 0), (3, 0), (3, 0), (3, 0), (0, 0), (0, 0), (3, 0), (3, 0), (3, 0), (3, 0), (3, 0), (3, 0), (0, 0), (0, 0), (0, 0), (3, 0), (3, 0), (3, 0), (0, 0), (0, 0), (0, 0), (0, 0), (0, 0), (0, 0), (0, 0)]))) 38 (.inr (0, 96, 0))) 32 (.inl (7, [(0, 0), (0, 0), (0, 0), (2, 33), (2, 34), (2, 35), (2, 36), (2, 37), (2, 38), (3, 0), (3, 0), (3, 0), (3, 0), (3, 0), (3, 0), (0, 0), (0, 0), (3, 0), (3, 0), (3, 0), (3, 0), (3, 0), (3, 0), (0, 0), (0, 0), (0, 0), (3, 0), (3, 0), (3, 0), (0, 0), (0, 0), (0, 0), (0, 0), (0, 0), (0, 0), (0, 0)]))) 39 (.inr (0, 96, 0))) 32 (.inl (7, [(0, 0), (0, 0), (0, 0), (2, 33), (2, 34), (2, 35), (2, 36), (2, 37), (2, 38), (2, 39), (3, 0), (3, 0), (3, 0), (3, 0), (3, 0), (0, 0), (0, 0), (3, 0), (3, 0), (3, 0), (3, 0), (3, 0), (3, 0), (0, 0), (0, 0), (0, 0), (3, 0), (3, 0), (3, 0), (0, 0), (0, 0), (0, 0), (0, 0), (0, 0), (0, 0), (0, 0)]))) 40 (.inr (0, 8, 0))) 32 (.inl (7, [(0, 0), (0, 0), (0, 0), (2, 33), (2, 34), (2, 35), (2, 36), (2, 37), (2, 38), (2, 39), (2, 40), (3, 0), (3, 0), (3, 0), (3, 0), (0, 0), (0, 0), (3, 0), (3, 0), (3, 0), (3, 0), (3, 0), (3, 0), (0, 0), (0, 0), (0, 0), (3, 0), (3, 0), (3, 0), (0, 0), (0, 0), (0, 0), (0, 0), (0, 0), (0, 0), (0, 0)]))) 41 (.inr (0, 8, 0))) 32 (.inl (7, [(0, 0), (0, 0), (0, 0), (2, 33), (2, 34), (2, 35), (2, 36), (2, 37), (2, 38), (2, 39), (2, 40), (2, 41), (3, 0), (3, 0), (3, 0), (0, 0), (0, 0), (3, 0), (3, 0), (3, 0), (3, 0), (3, 0), (3, 0), (0, 0), (0, 0), (0, 0), (3, 0), (3, 0), (3, 0), (0, 0), (0, 0), (0, 0), (0, 0), (0, 0), (0, 0), (0, 0)]))) 42 (.inr (0, 8, 0))) 32 (.inl (7, [(0, 0), (0, 0), (0, 0), (2, 33), (2, 34), (2, 35), (2, 36), (2, 37), (2, 38), (2, 39), (2, 40), (2, 41), (2, 42), (3, 0), (3, 0), (0, 0), (0, 0), (3, 0), (3, 0), (3, 0), (3, 0), (3, 0), (3, 0), (0, 0), (0, 0), (0, 0), (3, 0), (3, 0), (3, 0), (0, 0), (0, 0), (0, 0), (0, 0), (0, 0), (0, 0), (0, 0)]))) 43 (.inr (0, 8, 0))) 32 (.inl (7, [(0, 0), (0, 0), (0, 0), (2, 33), (2, 34), (2, 35), (2, 36), (2, 37), (2, 38), (2, 39), (2, 40), (2, 41), (2, 42), (2, 43), (3, 0), (0, 0), (0, 0), (3, 0), (3, 0), (3, 0), (3, 0), (3, 0), (3, 0), (0, 0), (0, 0), (0, 0), (3, 0), (3, 0), (3, 0), (0, 0), (0, 0), (0, 0), (0, 0), (0, 0), (0, 0), (0, 0)]))) 44 (.inr (0, 8, 0))) 32 (.inl (7, [(0, 0), (0, 0), (0, 0), (2, 33), (2, 34), (2, 35), (2, 36), (2, 37), (2, 38), (2, 39), (2, 40), (2, 41), (2, 42), (2, 43), (2, 44), (0, 0), (0, 0), (3, 0), (3, 0), (3, 0), (3, 0), (3, 0), (3, 0), (0, 0), (0, 0), (0, 0), (3, 0), (3, 0), (3, 0), (0, 0), (0, 0), (0, 0), (0, 0), (0, 0), (0, 0), (0, 0)]))) 45 (.inr (2, 16, 0))) 32 (.inl (7, [(0, 0), (0, 0), (0, 0), (2, 33), (2, 34), (2, 35), (2, 36), (2, 37), (2, 38), (2, 39), (2, 40), (2, 41), (2, 42), (2, 43), (2, 44), (0, 0), (0, 0), (2, 45), (3, 0), (3, 0), (3, 0), (3, 0), (3, 0), (0, 0), (0, 0), (0, 0), (3, 0), (3, 0), (3, 0), (0, 0), (0, 0), (0, 0), (0, 0), (0, 0), (0, 0), (0, 0)]))) 46 (.inr (1, 16, 0))) 32 (.inl (7, [(0, 0), (0, 0), (0, 0), (2, 33), (2, 34), (2, 35), (2, 36), (2, 37), (2, 38), (2, 39), (2, 40), (2, 41), (2, 42), (2, 43), (2, 44), (0, 0), (0, 0), (2, 45), (2, 46), (3, 0), (3, 0), (3, 0), (3, 0), (0, 0), (0, 0), (0, 0), (3, 0), (3, 0), (3, 0), (0, 0), (0, 0), (0, 0), (0, 0), (0, 0), (0, 0), (0, 0)]))) 47 (.inr (1, 336, 0))) 32 (.inl (7, [(0, 0), (0, 0), (0, 0), (2, 33), (2, 34), (2, 35), (2, 36), (2, 37), (2, 38), (2, 39), (2, 40), (2, 41), (2, 42), (2, 43), (2, 44), (0, 0), (0, 0), (2, 45), (2, 46), (2, 47), (3, 0), (3, 0), (3, 0), (0, 0), (0, 0), (0, 0), (3, 0), (3, 0), (3, 0), (0, 0), (0, 0), (0, 0), (0, 0), (0, 0), (0, 0), (0, 0)]))) 48 (.inr (0, 16, 0))) 32 (.inl (7, [(0, 0), (0, 0), (0, 0), (2, 33), (2, 34), (2, 35), (2, 36), (2, 37), (2, 38), (2, 39), (2, 40), (2, 41), (2, 42), (2, 43), (2, 44), (0, 0), (0, 0), (2, 45), (2, 46), (2, 47), (2, 48), (3, 0), (3, 0), (0, 0), (0, 0), (0, 0), (3, 0), (3, 0), (3, 0), (0, 0), (0, 0), (0, 0), (0, 0), (0, 0), (0, 0), (0, 0)]))) 49 (.inr (0, 16, 0))) 32 (.inl (7, [(0, 0), (0, 0), (0, 0), (2, 33), (2, 34), (2, 35), (2, 36), (2, 37), (2, 38), (2, 39), (2, 40), (2, 41), (2, 42), (2, 43), (2, 44), (0, 0), (0, 0), (2, 45), (2, 46), (2, 47), (2, 48), (2, 49), (3, 0), (0, 0), (0, 0), (0, 0), (3, 0), (3, 0), (3, 0), (0, 0), (0, 0), (0, 0), (0, 0), (0, 0), (0, 0), (0, 0)]))) 50 (.inr (0, 16, 0))) 32 (.inl (7, [(0, 0), (0, 0), (0, 0), (2, 33), (2, 34), (2, 35), (2, 36), (2, 37), (2, 38), (2, 39), (2, 40), (2, 41), (2, 42), (2, 43), (2, 44), (0, 0), (0, 0), (2, 45), (2, 46), (2, 47), (2, 48), (2, 49), (2, 50), (0, 0), (0, 0), (0, 0), (3, 0), (3, 0), (3, 0), (0, 0), (0, 0), (0, 0), (0, 0), (0, 0), (0, 0), (0, 0)]))) 51 (.inr (0, 16, 0))) 32 (.inl (7, [(0, 0), (0, 0), (0, 0), (2, 33), (2, 34), (2, 35), (2, 36), (2, 37), (2, 38), (2, 39), (2, 40), (2, 41), (2, 42), (2, 43), (2, 44), (0, 0), (0, 0), (2, 45), (2, 46), (2, 47), (2, 48), (2, 49), (2, 50), (0, 0), (0, 0), (0, 0), (2, 51), (3, 0), (3, 0), (0, 0), (0, 0), (0, 0), (0, 0), (0, 0), (0, 0), (0, 0)]))) 52 (.inr (0, 16, 0))) 32 (.inl (7, [(0, 0), (0, 0), (0, 0), (2, 33), (2, 34), (2, 35), (2, 36), (2, 37), (2, 38), (2, 39), (2, 40), (2, 41), (2, 42), (2, 43), (2, 44), (0, 0), (0, 0), (2, 45), (2, 46), (2, 47), (2, 48), (2, 49), (2, 50), (0, 0), (0, 0), (0, 0), (2, 51), (2, 52), (3, 0), (0, 0), (0, 0), (0, 0), (0, 0), (0, 0), (0, 0), (0, 0)]))) 53 (.inr (0, 256, 0))) 32 (.inl (7, [(0, 0), (0, 0), (0, 0), (2, 33), (2, 34), (2, 35), (2, 36), (2, 37), (2, 38), (2, 39), (2, 40), (2, 41), (2, 42), (2, 43), (2, 44), (0, 0), (0, 0), (2, 45), (2, 46), (2, 47), (2, 48), (2, 49), (2, 50), (0, 0), (0, 0), (0, 0), (2, 51), (2, 52), (2, 53), (0, 0), (0, 0), (0, 0), (0, 0), (0, 0), (0, 0), (0, 0)])))
theorem shK_Model_ok {n : Nat} {sh : zw_Sh} : ∀ (k : Nat) (q : zw_Sp), shM k = some q → shK_Model_init n sh k = some q := by
  intro k q h
  by_cases hk : k < 32
  · unfold shM at h
    rw [if_pos hk] at h
    cases h
  · by_cases h54 : k < 54
    · rcases (show k = 32 ∨ k = 33 ∨ k = 34 ∨ k = 35 ∨ k = 36 ∨ k = 37 ∨ k = 38 ∨ k = 39 ∨ k = 40 ∨ k = 41 ∨ k = 42 ∨ k = 43 ∨ k = 44 ∨ k = 45 ∨ k = 46 ∨ k = 47 ∨ k = 48 ∨ k = 49 ∨ k = 50 ∨ k = 51 ∨ k = 52 ∨ k = 53 by omega) with rfl | rfl | rfl | rfl | rfl | rfl | rfl | rfl | rfl | rfl | rfl | rfl | rfl | rfl | rfl | rfl | rfl | rfl | rfl | rfl | rfl | rfl
      all_goals exact h
    · unfold shM at h
      rw [if_neg hk, List.getD_eq_getElem?_getD, List.getElem?_eq_none (by show 22 ≤ k - 32; omega)] at h
      cases h
theorem shK_Model_off {n k : Nat} {sh : zw_Sh} (h : k < 32 ∨ 53 < k) : shK_Model_init n sh k = sh k := ((zs_ne (by omega)).trans ((zs_ne (by omega)).trans ((zs_ne (by omega)).trans ((zs_ne (by omega)).trans ((zs_ne (by omega)).trans ((zs_ne (by omega)).trans ((zs_ne (by omega)).trans ((zs_ne (by omega)).trans ((zs_ne (by omega)).trans ((zs_ne (by omega)).trans ((zs_ne (by omega)).trans ((zs_ne (by omega)).trans ((zs_ne (by omega)).trans ((zs_ne (by omega)).trans ((zs_ne (by omega)).trans ((zs_ne (by omega)).trans ((zs_ne (by omega)).trans ((zs_ne (by omega)).trans ((zs_ne (by omega)).trans ((zs_ne (by omega)).trans ((zs_ne (by omega)).trans ((zs_ne (by omega)).trans ((zs_ne (by omega)).trans ((zs_ne (by omega)).trans ((zs_ne (by omega)).trans ((zs_ne (by omega)).trans ((zs_ne (by omega)).trans ((zs_ne (by omega)).trans ((zs_ne (by omega)).trans ((zs_ne (by omega)).trans ((zs_ne (by omega)).trans ((zs_ne (by omega)).trans ((zs_ne (by omega)).trans ((zs_ne (by omega)).trans ((zs_ne (by omega)).trans ((zs_ne (by omega)).trans ((zs_ne (by omega)).trans ((zs_ne (by omega)).trans ((zs_ne (by omega)).trans ((zs_ne (by omega)).trans ((zs_ne (by omega)).trans (zs_ne (by omega)))))))))))))))))))))))))))))))))))))))))))
set_option maxHeartbeats 4000000 in
set_option maxRecDepth 100000 in
theorem c_Model_init {l : Launch} {D : va_G} {cA : Nat → ClassId} {ad : Nat → Nat} {sh : zw_Sh} {n : Nat} (hn : n ≤ 16) {z0 : Nat} (ha : ∀ k, ad k = zo n z0 k) (hk : sh 32 = some (.inl (7, [(0, 0), (0, 0), (0, 0), (3, 0), (3, 0), (3, 0), (3, 0), (3, 0), (3, 0), (3, 0), (3, 0), (3, 0), (3, 0), (3, 0), (3, 0), (0, 0), (0, 0), (3, 0), (3, 0), (3, 0), (3, 0), (3, 0), (3, 0), (0, 0), (0, 0), (0, 0), (3, 0), (3, 0), (3, 0), (0, 0), (0, 0), (0, 0), (0, 0), (0, 0), (0, 0), (0, 0)]))) (x y : Int32) (mi : zw_I) (ml : zw_L) (h0 : ∀ k j : Nat, 31 < k → mi k j = 0) (h1 : ∀ k j : Nat, 31 < k → ml k j = 0)  :
    zc_M l D cA Y_Model_init 1 21 1300 ad sh (shK_Model_init n sh) (z0 + (30 + 5 * n)) [.ref (ad 32), .int x, .int y] mi ml none ((q_clear (q_mk x y mi) ml).1) ((q_clear (q_mk x y mi) ml).2) (z0 + (51 + 5 * n)) := by
  refine zc_enter (own := R_Model) (by decide) rfl (Nat.le_of_ble_eq_true rfl) ?_
  intro p e s m below meth c X hr hlocks hnm hB ls hl
  have X : zw_C D cA R_Model prog_9_method_1_code 3 p m c s := X
  have hr : meth.sig.returnType = none := hr
  have hx := X.1
  have hb := X.2.1
  have hnn := zo_nn hn
  have hl : lv_has ls 3 [(0, .ref (ad 32)), (1, .int x), (2, .int y)] := hl
  unfold q_mk q_near
  refine lv_aload_n hx hb d_Model_init_0 rfl (lv_at hl 0 rfl) ?_
  refine W.objInit hx hb X.2.2.2.1 (X.2.2.2.2.ts _ ko_Model_1) (X.2.2.2.2.ts _ ko_in) (X.2.2.2.2.ts _ ko_co) rfl (by rw [X.2.2.1]; exact hl.1) rfl d_Model_init_1 (Nat.le_of_ble_eq_true rfl) (Nat.le_of_ble_eq_true rfl) ?_
  show W p l e _ s m _ below meth c _ _ _ _ _ (F0 m 4 ls [])
  refine lv_aload_n hx hb d_Model_init_4 rfl (lv_at hl 0 rfl) ?_
  refine lv_bipush (v := 16) hx hb d_Model_init_5 (by decide) ?_
  refine zw_newI X hB kw_int 33 ((ha 33).trans ((zo_33 n z0).trans (by omega))) (fun j => h0 33 j (by omega)) (by decide) (by decide) (by omega) (sh' := zs_up _ 33 (.inr (0, 16, 0))) zs_self (fun i hi => zs_ne hi) (show 0 + 1 ≤ 21 by omega) (show 0 + 16 ≤ 1300 by omega) d_Model_init_7 (fun H hB => ?_)
  refine zw_put X hB fp_Model_7 (fun _ => hnm) 32 ((zs_ne (by decide)).trans (hk)) (by decide) rfl rfl (mi' := mi) (ml' := ml) (q' := (2, 33)) (sh' := zs_up _ 32 (.inl (7, [(0, 0), (0, 0), (0, 0), (2, 33), (3, 0), (3, 0), (3, 0), (3, 0), (3, 0), (3, 0), (3, 0), (3, 0), (3, 0), (3, 0), (3, 0), (0, 0), (0, 0), (3, 0), (3, 0), (3, 0), (3, 0), (3, 0), (3, 0), (0, 0), (0, 0), (0, 0), (3, 0), (3, 0), (3, 0), (0, 0), (0, 0), (0, 0), (0, 0), (0, 0), (0, 0), (0, 0)]))) rfl (fun _ _ _ => rfl) (fun _ _ _ => rfl) zs_self (fun i hi => zs_ne hi) d_Model_init_9 (fun H locs hB => ?_)
  refine lv_aload_n hx hb d_Model_init_12 rfl (lv_at hl 0 rfl) ?_
  refine lv_bipush (v := 16) hx hb d_Model_init_13 (by decide) ?_
  refine zw_newI X hB kw_int 34 ((ha 34).trans ((zo_34 n z0).trans (by omega))) (fun j => h0 34 j (by omega)) (by decide) (by decide) (by omega) (sh' := zs_up _ 34 (.inr (0, 16, 0))) zs_self (fun i hi => zs_ne hi) (show 0 + 1 + 1 ≤ 21 by omega) (show 0 + 16 + 16 ≤ 1300 by omega) d_Model_init_15 (fun H hB => ?_)
  refine zw_put X hB fp_Model_13 (fun _ => hnm) 32 ((zs_ne (by decide)).trans zs_self) (by decide) rfl rfl (mi' := mi) (ml' := ml) (q' := (2, 34)) (sh' := zs_up _ 32 (.inl (7, [(0, 0), (0, 0), (0, 0), (2, 33), (2, 34), (3, 0), (3, 0), (3, 0), (3, 0), (3, 0), (3, 0), (3, 0), (3, 0), (3, 0), (3, 0), (0, 0), (0, 0), (3, 0), (3, 0), (3, 0), (3, 0), (3, 0), (3, 0), (0, 0), (0, 0), (0, 0), (3, 0), (3, 0), (3, 0), (0, 0), (0, 0), (0, 0), (0, 0), (0, 0), (0, 0), (0, 0)]))) rfl (fun _ _ _ => rfl) (fun _ _ _ => rfl) zs_self (fun i hi => zs_ne hi) d_Model_init_17 (fun H locs hB => ?_)
  refine lv_aload_n hx hb d_Model_init_20 rfl (lv_at hl 0 rfl) ?_
  refine lv_bipush (v := 16) hx hb d_Model_init_21 (by decide) ?_
  refine zw_newJ X hB kw_long 35 ((ha 35).trans ((zo_35 n z0).trans (by omega))) (fun j => h1 35 j (by omega)) (by decide) (by decide) (by omega) (sh' := zs_up _ 35 (.inr (1, 16, 0))) zs_self (fun i hi => zs_ne hi) (show 0 + 1 + 1 + 1 ≤ 21 by omega) (show 0 + 16 + 16 + 16 ≤ 1300 by omega) d_Model_init_23 (fun H hB => ?_)
  refine zw_put X hB fp_Model_16 (fun _ => hnm) 32 ((zs_ne (by decide)).trans zs_self) (by decide) rfl rfl (mi' := mi) (ml' := ml) (q' := (2, 35)) (sh' := zs_up _ 32 (.inl (7, [(0, 0), (0, 0), (0, 0), (2, 33), (2, 34), (2, 35), (3, 0), (3, 0), (3, 0), (3, 0), (3, 0), (3, 0), (3, 0), (3, 0), (3, 0), (0, 0), (0, 0), (3, 0), (3, 0), (3, 0), (3, 0), (3, 0), (3, 0), (0, 0), (0, 0), (0, 0), (3, 0), (3, 0), (3, 0), (0, 0), (0, 0), (0, 0), (0, 0), (0, 0), (0, 0), (0, 0)]))) rfl (fun _ _ _ => rfl) (fun _ _ _ => rfl) zs_self (fun i hi => zs_ne hi) d_Model_init_25 (fun H locs hB => ?_)
  refine lv_aload_n hx hb d_Model_init_28 rfl (lv_at hl 0 rfl) ?_
  refine lv_bipush (v := 16) hx hb d_Model_init_29 (by decide) ?_
  refine zw_newI X hB kw_int 36 ((ha 36).trans ((zo_36 n z0).trans (by omega))) (fun j => h0 36 j (by omega)) (by decide) (by decide) (by omega) (sh' := zs_up _ 36 (.inr (0, 16, 0))) zs_self (fun i hi => zs_ne hi) (show 0 + 1 + 1 + 1 + 1 ≤ 21 by omega) (show 0 + 16 + 16 + 16 + 16 ≤ 1300 by omega) d_Model_init_31 (fun H hB => ?_)
  refine zw_put X hB fp_Model_20 (fun _ => hnm) 32 ((zs_ne (by decide)).trans zs_self) (by decide) rfl rfl (mi' := mi) (ml' := ml) (q' := (2, 36)) (sh' := zs_up _ 32 (.inl (7, [(0, 0), (0, 0), (0, 0), (2, 33), (2, 34), (2, 35), (2, 36), (3, 0), (3, 0), (3, 0), (3, 0), (3, 0), (3, 0), (3, 0), (3, 0), (0, 0), (0, 0), (3, 0), (3, 0), (3, 0), (3, 0), (3, 0), (3, 0), (0, 0), (0, 0), (0, 0), (3, 0), (3, 0), (3, 0), (0, 0), (0, 0), (0, 0), (0, 0), (0, 0), (0, 0), (0, 0)]))) rfl (fun _ _ _ => rfl) (fun _ _ _ => rfl) zs_self (fun i hi => zs_ne hi) d_Model_init_33 (fun H locs hB => ?_)
  refine lv_aload_n hx hb d_Model_init_36 rfl (lv_at hl 0 rfl) ?_
  refine lv_bipush (v := 96) hx hb d_Model_init_37 (by decide) ?_
  refine zw_newI X hB kw_int 37 ((ha 37).trans ((zo_37 n z0).trans (by omega))) (fun j => h0 37 j (by omega)) (by decide) (by decide) (by omega) (sh' := zs_up _ 37 (.inr (0, 96, 0))) zs_self (fun i hi => zs_ne hi) (show 0 + 1 + 1 + 1 + 1 + 1 ≤ 21 by omega) (show 0 + 16 + 16 + 16 + 16 + 96 ≤ 1300 by omega) d_Model_init_39 (fun H hB => ?_)
  refine zw_put X hB fp_Model_23 (fun _ => hnm) 32 ((zs_ne (by decide)).trans zs_self) (by decide) rfl rfl (mi' := mi) (ml' := ml) (q' := (2, 37)) (sh' := zs_up _ 32 (.inl (7, [(0, 0), (0, 0), (0, 0), (2, 33), (2, 34), (2, 35), (2, 36), (2, 37), (3, 0), (3, 0), (3, 0), (3, 0), (3, 0), (3, 0), (3, 0), (0, 0), (0, 0), (3, 0), (3, 0), (3, 0), (3, 0), (3, 0), (3, 0), (0, 0), (0, 0), (0, 0), (3, 0), (3, 0), (3, 0), (0, 0), (0, 0), (0, 0), (0, 0), (0, 0), (0, 0), (0, 0)]))) rfl (fun _ _ _ => rfl) (fun _ _ _ => rfl) zs_self (fun i hi => zs_ne hi) d_Model_init_41 (fun H locs hB => ?_)
  refine lv_aload_n hx hb d_Model_init_44 rfl (lv_at hl 0 rfl) ?_
  refine lv_bipush (v := 96) hx hb d_Model_init_45 (by decide) ?_
  refine zw_newI X hB kw_int 38 ((ha 38).trans ((zo_38 n z0).trans (by omega))) (fun j => h0 38 j (by omega)) (by decide) (by decide) (by omega) (sh' := zs_up _ 38 (.inr (0, 96, 0))) zs_self (fun i hi => zs_ne hi) (show 0 + 1 + 1 + 1 + 1 + 1 + 1 ≤ 21 by omega) (show 0 + 16 + 16 + 16 + 16 + 96 + 96 ≤ 1300 by omega) d_Model_init_47 (fun H hB => ?_)
  refine zw_put X hB fp_Model_26 (fun _ => hnm) 32 ((zs_ne (by decide)).trans zs_self) (by decide) rfl rfl (mi' := mi) (ml' := ml) (q' := (2, 38)) (sh' := zs_up _ 32 (.inl (7, [(0, 0), (0, 0), (0, 0), (2, 33), (2, 34), (2, 35), (2, 36), (2, 37), (2, 38), (3, 0), (3, 0), (3, 0), (3, 0), (3, 0), (3, 0), (0, 0), (0, 0), (3, 0), (3, 0), (3, 0), (3, 0), (3, 0), (3, 0), (0, 0), (0, 0), (0, 0), (3, 0), (3, 0), (3, 0), (0, 0), (0, 0), (0, 0), (0, 0), (0, 0), (0, 0), (0, 0)]))) rfl (fun _ _ _ => rfl) (fun _ _ _ => rfl) zs_self (fun i hi => zs_ne hi) d_Model_init_49 (fun H locs hB => ?_)
  refine lv_aload_n hx hb d_Model_init_52 rfl (lv_at hl 0 rfl) ?_
  refine lv_bipush (v := 96) hx hb d_Model_init_53 (by decide) ?_
  refine zw_newI X hB kw_int 39 ((ha 39).trans ((zo_39 n z0).trans (by omega))) (fun j => h0 39 j (by omega)) (by decide) (by decide) (by omega) (sh' := zs_up _ 39 (.inr (0, 96, 0))) zs_self (fun i hi => zs_ne hi) (show 0 + 1 + 1 + 1 + 1 + 1 + 1 + 1 ≤ 21 by omega) (show 0 + 16 + 16 + 16 + 16 + 96 + 96 + 96 ≤ 1300 by omega) d_Model_init_55 (fun H hB => ?_)
  refine zw_put X hB fp_Model_29 (fun _ => hnm) 32 ((zs_ne (by decide)).trans zs_self) (by decide) rfl rfl (mi' := mi) (ml' := ml) (q' := (2, 39)) (sh' := zs_up _ 32 (.inl (7, [(0, 0), (0, 0), (0, 0), (2, 33), (2, 34), (2, 35), (2, 36), (2, 37), (2, 38), (2, 39), (3, 0), (3, 0), (3, 0), (3, 0), (3, 0), (0, 0), (0, 0), (3, 0), (3, 0), (3, 0), (3, 0), (3, 0), (3, 0), (0, 0), (0, 0), (0, 0), (3, 0), (3, 0), (3, 0), (0, 0), (0, 0), (0, 0), (0, 0), (0, 0), (0, 0), (0, 0)]))) rfl (fun _ _ _ => rfl) (fun _ _ _ => rfl) zs_self (fun i hi => zs_ne hi) d_Model_init_57 (fun H locs hB => ?_)
  refine lv_aload_n hx hb d_Model_init_60 rfl (lv_at hl 0 rfl) ?_
  refine lv_bipush (v := 8) hx hb d_Model_init_61 (by decide) ?_
  refine zw_newI X hB kw_int 40 ((ha 40).trans ((zo_40 n z0).trans (by omega))) (fun j => h0 40 j (by omega)) (by decide) (by decide) (by omega) (sh' := zs_up _ 40 (.inr (0, 8, 0))) zs_self (fun i hi => zs_ne hi) (show 0 + 1 + 1 + 1 + 1 + 1 + 1 + 1 + 1 ≤ 21 by omega) (show 0 + 16 + 16 + 16 + 16 + 96 + 96 + 96 + 8 ≤ 1300 by omega) d_Model_init_63 (fun H hB => ?_)
  refine zw_put X hB fp_Model_32 (fun _ => hnm) 32 ((zs_ne (by decide)).trans zs_self) (by decide) rfl rfl (mi' := mi) (ml' := ml) (q' := (2, 40)) (sh' := zs_up _ 32 (.inl (7, [(0, 0), (0, 0), (0, 0), (2, 33), (2, 34), (2, 35), (2, 36), (2, 37), (2, 38), (2, 39), (2, 40), (3, 0), (3, 0), (3, 0), (3, 0), (0, 0), (0, 0), (3, 0), (3, 0), (3, 0), (3, 0), (3, 0), (3, 0), (0, 0), (0, 0), (0, 0), (3, 0), (3, 0), (3, 0), (0, 0), (0, 0), (0, 0), (0, 0), (0, 0), (0, 0), (0, 0)]))) rfl (fun _ _ _ => rfl) (fun _ _ _ => rfl) zs_self (fun i hi => zs_ne hi) d_Model_init_65 (fun H locs hB => ?_)
  refine lv_aload_n hx hb d_Model_init_68 rfl (lv_at hl 0 rfl) ?_
  refine lv_bipush (v := 8) hx hb d_Model_init_69 (by decide) ?_
  refine zw_newI X hB kw_int 41 ((ha 41).trans ((zo_41 n z0).trans (by omega))) (fun j => h0 41 j (by omega)) (by decide) (by decide) (by omega) (sh' := zs_up _ 41 (.inr (0, 8, 0))) zs_self (fun i hi => zs_ne hi) (show 0 + 1 + 1 + 1 + 1 + 1 + 1 + 1 + 1 + 1 ≤ 21 by omega) (show 0 + 16 + 16 + 16 + 16 + 96 + 96 + 96 + 8 + 8 ≤ 1300 by omega) d_Model_init_71 (fun H hB => ?_)
  refine zw_put X hB fp_Model_35 (fun _ => hnm) 32 ((zs_ne (by decide)).trans zs_self) (by decide) rfl rfl (mi' := mi) (ml' := ml) (q' := (2, 41)) (sh' := zs_up _ 32 (.inl (7, [(0, 0), (0, 0), (0, 0), (2, 33), (2, 34), (2, 35), (2, 36), (2, 37), (2, 38), (2, 39), (2, 40), (2, 41), (3, 0), (3, 0), (3, 0), (0, 0), (0, 0), (3, 0), (3, 0), (3, 0), (3, 0), (3, 0), (3, 0), (0, 0), (0, 0), (0, 0), (3, 0), (3, 0), (3, 0), (0, 0), (0, 0), (0, 0), (0, 0), (0, 0), (0, 0), (0, 0)]))) rfl (fun _ _ _ => rfl) (fun _ _ _ => rfl) zs_self (fun i hi => zs_ne hi) d_Model_init_73 (fun H locs hB => ?_)
  refine lv_aload_n hx hb d_Model_init_76 rfl (lv_at hl 0 rfl) ?_
  refine lv_bipush (v := 8) hx hb d_Model_init_77 (by decide) ?_
  refine zw_newI X hB kw_int 42 ((ha 42).trans ((zo_42 n z0).trans (by omega))) (fun j => h0 42 j (by omega)) (by decide) (by decide) (by omega) (sh' := zs_up _ 42 (.inr (0, 8, 0))) zs_self (fun i hi => zs_ne hi) (show 0 + 1 + 1 + 1 + 1 + 1 + 1 + 1 + 1 + 1 + 1 ≤ 21 by omega) (show 0 + 16 + 16 + 16 + 16 + 96 + 96 + 96 + 8 + 8 + 8 ≤ 1300 by omega) d_Model_init_79 (fun H hB => ?_)
  refine zw_put X hB fp_Model_38 (fun _ => hnm) 32 ((zs_ne (by decide)).trans zs_self) (by decide) rfl rfl (mi' := mi) (ml' := ml) (q' := (2, 42)) (sh' := zs_up _ 32 (.inl (7, [(0, 0), (0, 0), (0, 0), (2, 33), (2, 34), (2, 35), (2, 36), (2, 37), (2, 38), (2, 39), (2, 40), (2, 41), (2, 42), (3, 0), (3, 0), (0, 0), (0, 0), (3, 0), (3, 0), (3, 0), (3, 0), (3, 0), (3, 0), (0, 0), (0, 0), (0, 0), (3, 0), (3, 0), (3, 0), (0, 0), (0, 0), (0, 0), (0, 0), (0, 0), (0, 0), (0, 0)]))) rfl (fun _ _ _ => rfl) (fun _ _ _ => rfl) zs_self (fun i hi => zs_ne hi) d_Model_init_81 (fun H locs hB => ?_)
  refine lv_aload_n hx hb d_Model_init_84 rfl (lv_at hl 0 rfl) ?_
  refine lv_bipush (v := 8) hx hb d_Model_init_85 (by decide) ?_
  refine zw_newI X hB kw_int 43 ((ha 43).trans ((zo_43 n z0).trans (by omega))) (fun j => h0 43 j (by omega)) (by decide) (by decide) (by omega) (sh' := zs_up _ 43 (.inr (0, 8, 0))) zs_self (fun i hi => zs_ne hi) (show 0 + 1 + 1 + 1 + 1 + 1 + 1 + 1 + 1 + 1 + 1 + 1 ≤ 21 by omega) (show 0 + 16 + 16 + 16 + 16 + 96 + 96 + 96 + 8 + 8 + 8 + 8 ≤ 1300 by omega) d_Model_init_87 (fun H hB => ?_)
  refine zw_put X hB fp_Model_41 (fun _ => hnm) 32 ((zs_ne (by decide)).trans zs_self) (by decide) rfl rfl (mi' := mi) (ml' := ml) (q' := (2, 43)) (sh' := zs_up _ 32 (.inl (7, [(0, 0), (0, 0), (0, 0), (2, 33), (2, 34), (2, 35), (2, 36), (2, 37), (2, 38), (2, 39), (2, 40), (2, 41), (2, 42), (2, 43), (3, 0), (0, 0), (0, 0), (3, 0), (3, 0), (3, 0), (3, 0), (3, 0), (3, 0), (0, 0), (0, 0), (0, 0), (3, 0), (3, 0), (3, 0), (0, 0), (0, 0), (0, 0), (0, 0), (0, 0), (0, 0), (0, 0)]))) rfl (fun _ _ _ => rfl) (fun _ _ _ => rfl) zs_self (fun i hi => zs_ne hi) d_Model_init_89 (fun H locs hB => ?_)
  refine lv_aload_n hx hb d_Model_init_92 rfl (lv_at hl 0 rfl) ?_
  refine lv_bipush (v := 8) hx hb d_Model_init_93 (by decide) ?_
  refine zw_newI X hB kw_int 44 ((ha 44).trans ((zo_44 n z0).trans (by omega))) (fun j => h0 44 j (by omega)) (by decide) (by decide) (by omega) (sh' := zs_up _ 44 (.inr (0, 8, 0))) zs_self (fun i hi => zs_ne hi) (show 0 + 1 + 1 + 1 + 1 + 1 + 1 + 1 + 1 + 1 + 1 + 1 + 1 ≤ 21 by omega) (show 0 + 16 + 16 + 16 + 16 + 96 + 96 + 96 + 8 + 8 + 8 + 8 + 8 ≤ 1300 by omega) d_Model_init_95 (fun H hB => ?_)
  refine zw_put X hB fp_Model_44 (fun _ => hnm) 32 ((zs_ne (by decide)).trans zs_self) (by decide) rfl rfl (mi' := mi) (ml' := ml) (q' := (2, 44)) (sh' := zs_up _ 32 (.inl (7, [(0, 0), (0, 0), (0, 0), (2, 33), (2, 34), (2, 35), (2, 36), (2, 37), (2, 38), (2, 39), (2, 40), (2, 41), (2, 42), (2, 43), (2, 44), (0, 0), (0, 0), (3, 0), (3, 0), (3, 0), (3, 0), (3, 0), (3, 0), (0, 0), (0, 0), (0, 0), (3, 0), (3, 0), (3, 0), (0, 0), (0, 0), (0, 0), (0, 0), (0, 0), (0, 0), (0, 0)]))) rfl (fun _ _ _ => rfl) (fun _ _ _ => rfl) zs_self (fun i hi => zs_ne hi) d_Model_init_97 (fun H locs hB => ?_)
  refine lv_aload_n hx hb d_Model_init_100 rfl (lv_at hl 0 rfl) ?_
  refine lv_bipush (v := 16) hx hb d_Model_init_101 (by decide) ?_
  refine zw_newZ X hB kw_boolean 45 ((ha 45).trans ((zo_45 n z0).trans (by omega))) (fun j => h0 45 j (by omega)) (by decide) (by decide) (by omega) (sh' := zs_up _ 45 (.inr (2, 16, 0))) zs_self (fun i hi => zs_ne hi) (show 0 + 1 + 1 + 1 + 1 + 1 + 1 + 1 + 1 + 1 + 1 + 1 + 1 + 1 ≤ 21 by omega) (show 0 + 16 + 16 + 16 + 16 + 96 + 96 + 96 + 8 + 8 + 8 + 8 + 8 + 16 ≤ 1300 by omega) d_Model_init_103 (fun H hB => ?_)
  refine zw_put X hB fp_Model_47 (fun _ => hnm) 32 ((zs_ne (by decide)).trans zs_self) (by decide) rfl rfl (mi' := mi) (ml' := ml) (q' := (2, 45)) (sh' := zs_up _ 32 (.inl (7, [(0, 0), (0, 0), (0, 0), (2, 33), (2, 34), (2, 35), (2, 36), (2, 37), (2, 38), (2, 39), (2, 40), (2, 41), (2, 42), (2, 43), (2, 44), (0, 0), (0, 0), (2, 45), (3, 0), (3, 0), (3, 0), (3, 0), (3, 0), (0, 0), (0, 0), (0, 0), (3, 0), (3, 0), (3, 0), (0, 0), (0, 0), (0, 0), (0, 0), (0, 0), (0, 0), (0, 0)]))) rfl (fun _ _ _ => rfl) (fun _ _ _ => rfl) zs_self (fun i hi => zs_ne hi) d_Model_init_105 (fun H locs hB => ?_)
  refine lv_aload_n hx hb d_Model_init_108 rfl (lv_at hl 0 rfl) ?_
  refine lv_bipush (v := 16) hx hb d_Model_init_109 (by decide) ?_
  refine zw_newJ X hB kw_long 46 ((ha 46).trans ((zo_46 n z0).trans (by omega))) (fun j => h1 46 j (by omega)) (by decide) (by decide) (by omega) (sh' := zs_up _ 46 (.inr (1, 16, 0))) zs_self (fun i hi => zs_ne hi) (show 0 + 1 + 1 + 1 + 1 + 1 + 1 + 1 + 1 + 1 + 1 + 1 + 1 + 1 + 1 ≤ 21 by omega) (show 0 + 16 + 16 + 16 + 16 + 96 + 96 + 96 + 8 + 8 + 8 + 8 + 8 + 16 + 16 ≤ 1300 by omega) d_Model_init_111 (fun H hB => ?_)
  refine zw_put X hB fp_Model_51 (fun _ => hnm) 32 ((zs_ne (by decide)).trans zs_self) (by decide) rfl rfl (mi' := mi) (ml' := ml) (q' := (2, 46)) (sh' := zs_up _ 32 (.inl (7, [(0, 0), (0, 0), (0, 0), (2, 33), (2, 34), (2, 35), (2, 36), (2, 37), (2, 38), (2, 39), (2, 40), (2, 41), (2, 42), (2, 43), (2, 44), (0, 0), (0, 0), (2, 45), (2, 46), (3, 0), (3, 0), (3, 0), (3, 0), (0, 0), (0, 0), (0, 0), (3, 0), (3, 0), (3, 0), (0, 0), (0, 0), (0, 0), (0, 0), (0, 0), (0, 0), (0, 0)]))) rfl (fun _ _ _ => rfl) (fun _ _ _ => rfl) zs_self (fun i hi => zs_ne hi) d_Model_init_113 (fun H locs hB => ?_)
  refine lv_aload_n hx hb d_Model_init_116 rfl (lv_at hl 0 rfl) ?_
  refine lv_sipush (v := 336) hx hb d_Model_init_117 (by decide) ?_
  refine zw_newJ X hB kw_long 47 ((ha 47).trans ((zo_47 n z0).trans (by omega))) (fun j => h1 47 j (by omega)) (by decide) (by decide) (by omega) (sh' := zs_up _ 47 (.inr (1, 336, 0))) zs_self (fun i hi => zs_ne hi) (show 0 + 1 + 1 + 1 + 1 + 1 + 1 + 1 + 1 + 1 + 1 + 1 + 1 + 1 + 1 + 1 ≤ 21 by omega) (show 0 + 16 + 16 + 16 + 16 + 96 + 96 + 96 + 8 + 8 + 8 + 8 + 8 + 16 + 16 + 336 ≤ 1300 by omega) d_Model_init_120 (fun H hB => ?_)
  refine zw_put X hB fp_Model_54 (fun _ => hnm) 32 ((zs_ne (by decide)).trans zs_self) (by decide) rfl rfl (mi' := mi) (ml' := ml) (q' := (2, 47)) (sh' := zs_up _ 32 (.inl (7, [(0, 0), (0, 0), (0, 0), (2, 33), (2, 34), (2, 35), (2, 36), (2, 37), (2, 38), (2, 39), (2, 40), (2, 41), (2, 42), (2, 43), (2, 44), (0, 0), (0, 0), (2, 45), (2, 46), (2, 47), (3, 0), (3, 0), (3, 0), (0, 0), (0, 0), (0, 0), (3, 0), (3, 0), (3, 0), (0, 0), (0, 0), (0, 0), (0, 0), (0, 0), (0, 0), (0, 0)]))) rfl (fun _ _ _ => rfl) (fun _ _ _ => rfl) zs_self (fun i hi => zs_ne hi) d_Model_init_122 (fun H locs hB => ?_)
  refine lv_aload_n hx hb d_Model_init_125 rfl (lv_at hl 0 rfl) ?_
  refine lv_bipush (v := 16) hx hb d_Model_init_126 (by decide) ?_
  refine zw_newI X hB kw_int 48 ((ha 48).trans ((zo_48 n z0).trans (by omega))) (fun j => h0 48 j (by omega)) (by decide) (by decide) (by omega) (sh' := zs_up _ 48 (.inr (0, 16, 0))) zs_self (fun i hi => zs_ne hi) (show 0 + 1 + 1 + 1 + 1 + 1 + 1 + 1 + 1 + 1 + 1 + 1 + 1 + 1 + 1 + 1 + 1 ≤ 21 by omega) (show 0 + 16 + 16 + 16 + 16 + 96 + 96 + 96 + 8 + 8 + 8 + 8 + 8 + 16 + 16 + 336 + 16 ≤ 1300 by omega) d_Model_init_128 (fun H hB => ?_)
  refine zw_put X hB fp_Model_57 (fun _ => hnm) 32 ((zs_ne (by decide)).trans zs_self) (by decide) rfl rfl (mi' := mi) (ml' := ml) (q' := (2, 48)) (sh' := zs_up _ 32 (.inl (7, [(0, 0), (0, 0), (0, 0), (2, 33), (2, 34), (2, 35), (2, 36), (2, 37), (2, 38), (2, 39), (2, 40), (2, 41), (2, 42), (2, 43), (2, 44), (0, 0), (0, 0), (2, 45), (2, 46), (2, 47), (2, 48), (3, 0), (3, 0), (0, 0), (0, 0), (0, 0), (3, 0), (3, 0), (3, 0), (0, 0), (0, 0), (0, 0), (0, 0), (0, 0), (0, 0), (0, 0)]))) rfl (fun _ _ _ => rfl) (fun _ _ _ => rfl) zs_self (fun i hi => zs_ne hi) d_Model_init_130 (fun H locs hB => ?_)
  refine lv_aload_n hx hb d_Model_init_133 rfl (lv_at hl 0 rfl) ?_
  refine lv_bipush (v := 16) hx hb d_Model_init_134 (by decide) ?_
  refine zw_newI X hB kw_int 49 ((ha 49).trans ((zo_49 n z0).trans (by omega))) (fun j => h0 49 j (by omega)) (by decide) (by decide) (by omega) (sh' := zs_up _ 49 (.inr (0, 16, 0))) zs_self (fun i hi => zs_ne hi) (show 0 + 1 + 1 + 1 + 1 + 1 + 1 + 1 + 1 + 1 + 1 + 1 + 1 + 1 + 1 + 1 + 1 + 1 ≤ 21 by omega) (show 0 + 16 + 16 + 16 + 16 + 96 + 96 + 96 + 8 + 8 + 8 + 8 + 8 + 16 + 16 + 336 + 16 + 16 ≤ 1300 by omega) d_Model_init_136 (fun H hB => ?_)
  refine zw_put X hB fp_Model_60 (fun _ => hnm) 32 ((zs_ne (by decide)).trans zs_self) (by decide) rfl rfl (mi' := mi) (ml' := ml) (q' := (2, 49)) (sh' := zs_up _ 32 (.inl (7, [(0, 0), (0, 0), (0, 0), (2, 33), (2, 34), (2, 35), (2, 36), (2, 37), (2, 38), (2, 39), (2, 40), (2, 41), (2, 42), (2, 43), (2, 44), (0, 0), (0, 0), (2, 45), (2, 46), (2, 47), (2, 48), (2, 49), (3, 0), (0, 0), (0, 0), (0, 0), (3, 0), (3, 0), (3, 0), (0, 0), (0, 0), (0, 0), (0, 0), (0, 0), (0, 0), (0, 0)]))) rfl (fun _ _ _ => rfl) (fun _ _ _ => rfl) zs_self (fun i hi => zs_ne hi) d_Model_init_138 (fun H locs hB => ?_)
  refine lv_aload_n hx hb d_Model_init_141 rfl (lv_at hl 0 rfl) ?_
  refine lv_bipush (v := 16) hx hb d_Model_init_142 (by decide) ?_
  refine zw_newI X hB kw_int 50 ((ha 50).trans ((zo_50 n z0).trans (by omega))) (fun j => h0 50 j (by omega)) (by decide) (by decide) (by omega) (sh' := zs_up _ 50 (.inr (0, 16, 0))) zs_self (fun i hi => zs_ne hi) (show 0 + 1 + 1 + 1 + 1 + 1 + 1 + 1 + 1 + 1 + 1 + 1 + 1 + 1 + 1 + 1 + 1 + 1 + 1 ≤ 21 by omega) (show 0 + 16 + 16 + 16 + 16 + 96 + 96 + 96 + 8 + 8 + 8 + 8 + 8 + 16 + 16 + 336 + 16 + 16 + 16 ≤ 1300 by omega) d_Model_init_144 (fun H hB => ?_)
  refine zw_put X hB fp_Model_63 (fun _ => hnm) 32 ((zs_ne (by decide)).trans zs_self) (by decide) rfl rfl (mi' := mi) (ml' := ml) (q' := (2, 50)) (sh' := zs_up _ 32 (.inl (7, [(0, 0), (0, 0), (0, 0), (2, 33), (2, 34), (2, 35), (2, 36), (2, 37), (2, 38), (2, 39), (2, 40), (2, 41), (2, 42), (2, 43), (2, 44), (0, 0), (0, 0), (2, 45), (2, 46), (2, 47), (2, 48), (2, 49), (2, 50), (0, 0), (0, 0), (0, 0), (3, 0), (3, 0), (3, 0), (0, 0), (0, 0), (0, 0), (0, 0), (0, 0), (0, 0), (0, 0)]))) rfl (fun _ _ _ => rfl) (fun _ _ _ => rfl) zs_self (fun i hi => zs_ne hi) d_Model_init_146 (fun H locs hB => ?_)
  refine lv_aload_n hx hb d_Model_init_149 rfl (lv_at hl 0 rfl) ?_
  refine lv_bipush (v := 16) hx hb d_Model_init_150 (by decide) ?_
  refine zw_newI X hB kw_int 51 ((ha 51).trans ((zo_51 n z0).trans (by omega))) (fun j => h0 51 j (by omega)) (by decide) (by decide) (by omega) (sh' := zs_up _ 51 (.inr (0, 16, 0))) zs_self (fun i hi => zs_ne hi) (show 0 + 1 + 1 + 1 + 1 + 1 + 1 + 1 + 1 + 1 + 1 + 1 + 1 + 1 + 1 + 1 + 1 + 1 + 1 + 1 ≤ 21 by omega) (show 0 + 16 + 16 + 16 + 16 + 96 + 96 + 96 + 8 + 8 + 8 + 8 + 8 + 16 + 16 + 336 + 16 + 16 + 16 + 16 ≤ 1300 by omega) d_Model_init_152 (fun H hB => ?_)
  refine zw_put X hB fp_Model_66 (fun _ => hnm) 32 ((zs_ne (by decide)).trans zs_self) (by decide) rfl rfl (mi' := mi) (ml' := ml) (q' := (2, 51)) (sh' := zs_up _ 32 (.inl (7, [(0, 0), (0, 0), (0, 0), (2, 33), (2, 34), (2, 35), (2, 36), (2, 37), (2, 38), (2, 39), (2, 40), (2, 41), (2, 42), (2, 43), (2, 44), (0, 0), (0, 0), (2, 45), (2, 46), (2, 47), (2, 48), (2, 49), (2, 50), (0, 0), (0, 0), (0, 0), (2, 51), (3, 0), (3, 0), (0, 0), (0, 0), (0, 0), (0, 0), (0, 0), (0, 0), (0, 0)]))) rfl (fun _ _ _ => rfl) (fun _ _ _ => rfl) zs_self (fun i hi => zs_ne hi) d_Model_init_154 (fun H locs hB => ?_)
  refine lv_aload_n hx hb d_Model_init_157 rfl (lv_at hl 0 rfl) ?_
  refine lv_bipush (v := 16) hx hb d_Model_init_158 (by decide) ?_
  refine zw_newI X hB kw_int 52 ((ha 52).trans ((zo_52 n z0).trans (by omega))) (fun j => h0 52 j (by omega)) (by decide) (by decide) (by omega) (sh' := zs_up _ 52 (.inr (0, 16, 0))) zs_self (fun i hi => zs_ne hi) (show 0 + 1 + 1 + 1 + 1 + 1 + 1 + 1 + 1 + 1 + 1 + 1 + 1 + 1 + 1 + 1 + 1 + 1 + 1 + 1 + 1 ≤ 21 by omega) (show 0 + 16 + 16 + 16 + 16 + 96 + 96 + 96 + 8 + 8 + 8 + 8 + 8 + 16 + 16 + 336 + 16 + 16 + 16 + 16 + 16 ≤ 1300 by omega) d_Model_init_160 (fun H hB => ?_)
  refine zw_put X hB fp_Model_69 (fun _ => hnm) 32 ((zs_ne (by decide)).trans zs_self) (by decide) rfl rfl (mi' := mi) (ml' := ml) (q' := (2, 52)) (sh' := zs_up _ 32 (.inl (7, [(0, 0), (0, 0), (0, 0), (2, 33), (2, 34), (2, 35), (2, 36), (2, 37), (2, 38), (2, 39), (2, 40), (2, 41), (2, 42), (2, 43), (2, 44), (0, 0), (0, 0), (2, 45), (2, 46), (2, 47), (2, 48), (2, 49), (2, 50), (0, 0), (0, 0), (0, 0), (2, 51), (2, 52), (3, 0), (0, 0), (0, 0), (0, 0), (0, 0), (0, 0), (0, 0), (0, 0)]))) rfl (fun _ _ _ => rfl) (fun _ _ _ => rfl) zs_self (fun i hi => zs_ne hi) d_Model_init_162 (fun H locs hB => ?_)
  refine lv_aload_n hx hb d_Model_init_165 rfl (lv_at hl 0 rfl) ?_
  refine lv_sipush (v := 256) hx hb d_Model_init_166 (by decide) ?_
  refine zw_newI X hB kw_int 53 ((ha 53).trans ((zo_53 n z0).trans (by omega))) (fun j => h0 53 j (by omega)) (by decide) (by decide) (by omega) (sh' := zs_up _ 53 (.inr (0, 256, 0))) zs_self (fun i hi => zs_ne hi) (show 0 + 1 + 1 + 1 + 1 + 1 + 1 + 1 + 1 + 1 + 1 + 1 + 1 + 1 + 1 + 1 + 1 + 1 + 1 + 1 + 1 + 1 ≤ 21 by omega) (show 0 + 16 + 16 + 16 + 16 + 96 + 96 + 96 + 8 + 8 + 8 + 8 + 8 + 16 + 16 + 336 + 16 + 16 + 16 + 16 + 16 + 256 ≤ 1300 by omega) d_Model_init_169 (fun H hB => ?_)
  refine zw_put X hB fp_Model_72 (fun _ => hnm) 32 ((zs_ne (by decide)).trans zs_self) (by decide) rfl rfl (mi' := mi) (ml' := ml) (q' := (2, 53)) (sh' := zs_up _ 32 (.inl (7, [(0, 0), (0, 0), (0, 0), (2, 33), (2, 34), (2, 35), (2, 36), (2, 37), (2, 38), (2, 39), (2, 40), (2, 41), (2, 42), (2, 43), (2, 44), (0, 0), (0, 0), (2, 45), (2, 46), (2, 47), (2, 48), (2, 49), (2, 50), (0, 0), (0, 0), (0, 0), (2, 51), (2, 52), (2, 53), (0, 0), (0, 0), (0, 0), (0, 0), (0, 0), (0, 0), (0, 0)]))) rfl (fun _ _ _ => rfl) (fun _ _ _ => rfl) zs_self (fun i hi => zs_ne hi) d_Model_init_171 (fun H locs hB => ?_)
  refine lv_aload_n hx hb d_Model_init_174 rfl (lv_at hl 0 rfl) ?_
  refine lv_iload_n hx hb d_Model_init_175 rfl (lv_at hl 1 rfl) ?_
  refine lv_iconst (v := 1) hx hb d_Model_init_176 (by decide) ?_
  refine lv_icmp_ge (tgt := 184) hx hb d_Model_init_177 (by decide) (fun c_177 => ?_) (fun c_177 => ?_)
  · rw [if_pos c_177]
    refine lv_iload_n hx hb d_Model_init_184 rfl (lv_at hl 1 rfl) ?_
    refine lv_bipush (v := 16) hx hb d_Model_init_185 (by decide) ?_
    refine lv_icmp_le (tgt := 195) hx hb d_Model_init_187 (by decide) (fun c_187 => ?_) (fun c_187 => ?_)
    · rw [if_pos c_187]
      refine lv_iload_n hx hb d_Model_init_195 rfl (lv_at hl 1 rfl) ?_
      refine zw_putI X hB fp_Model_75 (fun _ => hnm) 32 zs_self rfl d_Model_init_196 (fun H locs hB => ?_)
      refine lv_aload_n hx hb d_Model_init_199 rfl (lv_at hl 0 rfl) ?_
      refine lv_iload_n hx hb d_Model_init_200 rfl (lv_at hl 2 rfl) ?_
      refine lv_iconst (v := 1) hx hb d_Model_init_201 (by decide) ?_
      refine lv_icmp_ge (tgt := 209) hx hb d_Model_init_202 (by decide) (fun c_202 => ?_) (fun c_202 => ?_)
      · rw [if_pos c_202]
        refine lv_iload_n hx hb d_Model_init_209 rfl (lv_at hl 2 rfl) ?_
        refine lv_sipush (v := 1000) hx hb d_Model_init_210 (by decide) ?_
        refine lv_icmp_le (tgt := 222) hx hb d_Model_init_213 (by decide) (fun c_213 => ?_) (fun c_213 => ?_)
        · rw [if_pos c_213]
          refine lv_iload_n hx hb d_Model_init_222 rfl (lv_at hl 2 rfl) ?_
          refine zw_putI X hB fp_Model_79 (fun _ => hnm) 32 zs_self rfl d_Model_init_223 (fun H locs hB => ?_)
          refine lv_aload_n hx hb d_Model_init_226 rfl (lv_at hl 0 rfl) ?_
          refine zw_callVv X hB mv_Model_82 32 zs_self rfl (c_Model_clear (shK_Model_ok (sh := sh) (n := n)) (z0 + (30 + 5 * n) + 1 + 1 + 1 + 1 + 1 + 1 + 1 + 1 + 1 + 1 + 1 + 1 + 1 + 1 + 1 + 1 + 1 + 1 + 1 + 1 + 1) (zw_up (zw_up mi 32 1 x) 32 2 y) ml) rfl hl.1 ⟨Nat.le_of_ble_eq_true rfl, Nat.le_of_ble_eq_true rfl⟩ rfl (Nat.le_of_ble_eq_true rfl) ⟨show 0 + 1 + 1 + 1 + 1 + 1 + 1 + 1 + 1 + 1 + 1 + 1 + 1 + 1 + 1 + 1 + 1 + 1 + 1 + 1 + 1 + 1 + 0 ≤ 21 by omega, show 0 + 16 + 16 + 16 + 16 + 96 + 96 + 96 + 8 + 8 + 8 + 8 + 8 + 16 + 16 + 336 + 16 + 16 + 16 + 16 + 16 + 256 + 0 ≤ 1300 by omega⟩ d_Model_init_227 (fun H locs hB => ?_)
          exact zc_vretW X hr hlocks (hB.to (show _ = z0 + (51 + 5 * n) by omega)) rfl rfl rfl (show 0 + 1 + 1 + 1 + 1 + 1 + 1 + 1 + 1 + 1 + 1 + 1 + 1 + 1 + 1 + 1 + 1 + 1 + 1 + 1 + 1 + 1 ≤ 21 by omega) (show 0 + 16 + 16 + 16 + 16 + 96 + 96 + 96 + 8 + 8 + 8 + 8 + 8 + 16 + 16 + 336 + 16 + 16 + 16 + 16 + 16 + 256 ≤ 1300 by omega) d_Model_init_230
        · rw [if_neg c_213]
          refine lv_sipush (v := 1000) hx hb d_Model_init_216 (by decide) ?_
          refine lv_goto (tgt := 223) hx hb d_Model_init_219 (by decide) ?_
          refine zw_putI X hB fp_Model_79 (fun _ => hnm) 32 zs_self rfl d_Model_init_223 (fun H locs hB => ?_)
          refine lv_aload_n hx hb d_Model_init_226 rfl (lv_at hl 0 rfl) ?_
          refine zw_callVv X hB mv_Model_82 32 zs_self rfl (c_Model_clear (shK_Model_ok (sh := sh) (n := n)) (z0 + (30 + 5 * n) + 1 + 1 + 1 + 1 + 1 + 1 + 1 + 1 + 1 + 1 + 1 + 1 + 1 + 1 + 1 + 1 + 1 + 1 + 1 + 1 + 1) (zw_up (zw_up mi 32 1 x) 32 2 1000) ml) rfl hl.1 ⟨Nat.le_of_ble_eq_true rfl, Nat.le_of_ble_eq_true rfl⟩ rfl (Nat.le_of_ble_eq_true rfl) ⟨show 0 + 1 + 1 + 1 + 1 + 1 + 1 + 1 + 1 + 1 + 1 + 1 + 1 + 1 + 1 + 1 + 1 + 1 + 1 + 1 + 1 + 1 + 0 ≤ 21 by omega, show 0 + 16 + 16 + 16 + 16 + 96 + 96 + 96 + 8 + 8 + 8 + 8 + 8 + 16 + 16 + 336 + 16 + 16 + 16 + 16 + 16 + 256 + 0 ≤ 1300 by omega⟩ d_Model_init_227 (fun H locs hB => ?_)
          exact zc_vretW X hr hlocks (hB.to (show _ = z0 + (51 + 5 * n) by omega)) rfl rfl rfl (show 0 + 1 + 1 + 1 + 1 + 1 + 1 + 1 + 1 + 1 + 1 + 1 + 1 + 1 + 1 + 1 + 1 + 1 + 1 + 1 + 1 + 1 ≤ 21 by omega) (show 0 + 16 + 16 + 16 + 16 + 96 + 96 + 96 + 8 + 8 + 8 + 8 + 8 + 16 + 16 + 336 + 16 + 16 + 16 + 16 + 16 + 256 ≤ 1300 by omega) d_Model_init_230
      · rw [if_neg c_202]
        refine lv_iconst (v := 1) hx hb d_Model_init_205 (by decide) ?_
        refine lv_goto (tgt := 223) hx hb d_Model_init_206 (by decide) ?_
        refine zw_putI X hB fp_Model_79 (fun _ => hnm) 32 zs_self rfl d_Model_init_223 (fun H locs hB => ?_)
        refine lv_aload_n hx hb d_Model_init_226 rfl (lv_at hl 0 rfl) ?_
        refine zw_callVv X hB mv_Model_82 32 zs_self rfl (c_Model_clear (shK_Model_ok (sh := sh) (n := n)) (z0 + (30 + 5 * n) + 1 + 1 + 1 + 1 + 1 + 1 + 1 + 1 + 1 + 1 + 1 + 1 + 1 + 1 + 1 + 1 + 1 + 1 + 1 + 1 + 1) (zw_up (zw_up mi 32 1 x) 32 2 1) ml) rfl hl.1 ⟨Nat.le_of_ble_eq_true rfl, Nat.le_of_ble_eq_true rfl⟩ rfl (Nat.le_of_ble_eq_true rfl) ⟨show 0 + 1 + 1 + 1 + 1 + 1 + 1 + 1 + 1 + 1 + 1 + 1 + 1 + 1 + 1 + 1 + 1 + 1 + 1 + 1 + 1 + 1 + 0 ≤ 21 by omega, show 0 + 16 + 16 + 16 + 16 + 96 + 96 + 96 + 8 + 8 + 8 + 8 + 8 + 16 + 16 + 336 + 16 + 16 + 16 + 16 + 16 + 256 + 0 ≤ 1300 by omega⟩ d_Model_init_227 (fun H locs hB => ?_)
        exact zc_vretW X hr hlocks (hB.to (show _ = z0 + (51 + 5 * n) by omega)) rfl rfl rfl (show 0 + 1 + 1 + 1 + 1 + 1 + 1 + 1 + 1 + 1 + 1 + 1 + 1 + 1 + 1 + 1 + 1 + 1 + 1 + 1 + 1 + 1 ≤ 21 by omega) (show 0 + 16 + 16 + 16 + 16 + 96 + 96 + 96 + 8 + 8 + 8 + 8 + 8 + 16 + 16 + 336 + 16 + 16 + 16 + 16 + 16 + 256 ≤ 1300 by omega) d_Model_init_230
    · rw [if_neg c_187]
      refine lv_bipush (v := 16) hx hb d_Model_init_190 (by decide) ?_
      refine lv_goto (tgt := 196) hx hb d_Model_init_192 (by decide) ?_
      refine zw_putI X hB fp_Model_75 (fun _ => hnm) 32 zs_self rfl d_Model_init_196 (fun H locs hB => ?_)
      refine lv_aload_n hx hb d_Model_init_199 rfl (lv_at hl 0 rfl) ?_
      refine lv_iload_n hx hb d_Model_init_200 rfl (lv_at hl 2 rfl) ?_
      refine lv_iconst (v := 1) hx hb d_Model_init_201 (by decide) ?_
      refine lv_icmp_ge (tgt := 209) hx hb d_Model_init_202 (by decide) (fun c_202 => ?_) (fun c_202 => ?_)
      · rw [if_pos c_202]
        refine lv_iload_n hx hb d_Model_init_209 rfl (lv_at hl 2 rfl) ?_
        refine lv_sipush (v := 1000) hx hb d_Model_init_210 (by decide) ?_
        refine lv_icmp_le (tgt := 222) hx hb d_Model_init_213 (by decide) (fun c_213 => ?_) (fun c_213 => ?_)
        · rw [if_pos c_213]
          refine lv_iload_n hx hb d_Model_init_222 rfl (lv_at hl 2 rfl) ?_
          refine zw_putI X hB fp_Model_79 (fun _ => hnm) 32 zs_self rfl d_Model_init_223 (fun H locs hB => ?_)
          refine lv_aload_n hx hb d_Model_init_226 rfl (lv_at hl 0 rfl) ?_
          refine zw_callVv X hB mv_Model_82 32 zs_self rfl (c_Model_clear (shK_Model_ok (sh := sh) (n := n)) (z0 + (30 + 5 * n) + 1 + 1 + 1 + 1 + 1 + 1 + 1 + 1 + 1 + 1 + 1 + 1 + 1 + 1 + 1 + 1 + 1 + 1 + 1 + 1 + 1) (zw_up (zw_up mi 32 1 16) 32 2 y) ml) rfl hl.1 ⟨Nat.le_of_ble_eq_true rfl, Nat.le_of_ble_eq_true rfl⟩ rfl (Nat.le_of_ble_eq_true rfl) ⟨show 0 + 1 + 1 + 1 + 1 + 1 + 1 + 1 + 1 + 1 + 1 + 1 + 1 + 1 + 1 + 1 + 1 + 1 + 1 + 1 + 1 + 1 + 0 ≤ 21 by omega, show 0 + 16 + 16 + 16 + 16 + 96 + 96 + 96 + 8 + 8 + 8 + 8 + 8 + 16 + 16 + 336 + 16 + 16 + 16 + 16 + 16 + 256 + 0 ≤ 1300 by omega⟩ d_Model_init_227 (fun H locs hB => ?_)
          exact zc_vretW X hr hlocks (hB.to (show _ = z0 + (51 + 5 * n) by omega)) rfl rfl rfl (show 0 + 1 + 1 + 1 + 1 + 1 + 1 + 1 + 1 + 1 + 1 + 1 + 1 + 1 + 1 + 1 + 1 + 1 + 1 + 1 + 1 + 1 ≤ 21 by omega) (show 0 + 16 + 16 + 16 + 16 + 96 + 96 + 96 + 8 + 8 + 8 + 8 + 8 + 16 + 16 + 336 + 16 + 16 + 16 + 16 + 16 + 256 ≤ 1300 by omega) d_Model_init_230
        · rw [if_neg c_213]
          refine lv_sipush (v := 1000) hx hb d_Model_init_216 (by decide) ?_
          refine lv_goto (tgt := 223) hx hb d_Model_init_219 (by decide) ?_
          refine zw_putI X hB fp_Model_79 (fun _ => hnm) 32 zs_self rfl d_Model_init_223 (fun H locs hB => ?_)
          refine lv_aload_n hx hb d_Model_init_226 rfl (lv_at hl 0 rfl) ?_
          refine zw_callVv X hB mv_Model_82 32 zs_self rfl (c_Model_clear (shK_Model_ok (sh := sh) (n := n)) (z0 + (30 + 5 * n) + 1 + 1 + 1 + 1 + 1 + 1 + 1 + 1 + 1 + 1 + 1 + 1 + 1 + 1 + 1 + 1 + 1 + 1 + 1 + 1 + 1) (zw_up (zw_up mi 32 1 16) 32 2 1000) ml) rfl hl.1 ⟨Nat.le_of_ble_eq_true rfl, Nat.le_of_ble_eq_true rfl⟩ rfl (Nat.le_of_ble_eq_true rfl) ⟨show 0 + 1 + 1 + 1 + 1 + 1 + 1 + 1 + 1 + 1 + 1 + 1 + 1 + 1 + 1 + 1 + 1 + 1 + 1 + 1 + 1 + 1 + 0 ≤ 21 by omega, show 0 + 16 + 16 + 16 + 16 + 96 + 96 + 96 + 8 + 8 + 8 + 8 + 8 + 16 + 16 + 336 + 16 + 16 + 16 + 16 + 16 + 256 + 0 ≤ 1300 by omega⟩ d_Model_init_227 (fun H locs hB => ?_)
          exact zc_vretW X hr hlocks (hB.to (show _ = z0 + (51 + 5 * n) by omega)) rfl rfl rfl (show 0 + 1 + 1 + 1 + 1 + 1 + 1 + 1 + 1 + 1 + 1 + 1 + 1 + 1 + 1 + 1 + 1 + 1 + 1 + 1 + 1 + 1 ≤ 21 by omega) (show 0 + 16 + 16 + 16 + 16 + 96 + 96 + 96 + 8 + 8 + 8 + 8 + 8 + 16 + 16 + 336 + 16 + 16 + 16 + 16 + 16 + 256 ≤ 1300 by omega) d_Model_init_230
      · rw [if_neg c_202]
        refine lv_iconst (v := 1) hx hb d_Model_init_205 (by decide) ?_
        refine lv_goto (tgt := 223) hx hb d_Model_init_206 (by decide) ?_
        refine zw_putI X hB fp_Model_79 (fun _ => hnm) 32 zs_self rfl d_Model_init_223 (fun H locs hB => ?_)
        refine lv_aload_n hx hb d_Model_init_226 rfl (lv_at hl 0 rfl) ?_
        refine zw_callVv X hB mv_Model_82 32 zs_self rfl (c_Model_clear (shK_Model_ok (sh := sh) (n := n)) (z0 + (30 + 5 * n) + 1 + 1 + 1 + 1 + 1 + 1 + 1 + 1 + 1 + 1 + 1 + 1 + 1 + 1 + 1 + 1 + 1 + 1 + 1 + 1 + 1) (zw_up (zw_up mi 32 1 16) 32 2 1) ml) rfl hl.1 ⟨Nat.le_of_ble_eq_true rfl, Nat.le_of_ble_eq_true rfl⟩ rfl (Nat.le_of_ble_eq_true rfl) ⟨show 0 + 1 + 1 + 1 + 1 + 1 + 1 + 1 + 1 + 1 + 1 + 1 + 1 + 1 + 1 + 1 + 1 + 1 + 1 + 1 + 1 + 1 + 0 ≤ 21 by omega, show 0 + 16 + 16 + 16 + 16 + 96 + 96 + 96 + 8 + 8 + 8 + 8 + 8 + 16 + 16 + 336 + 16 + 16 + 16 + 16 + 16 + 256 + 0 ≤ 1300 by omega⟩ d_Model_init_227 (fun H locs hB => ?_)
        exact zc_vretW X hr hlocks (hB.to (show _ = z0 + (51 + 5 * n) by omega)) rfl rfl rfl (show 0 + 1 + 1 + 1 + 1 + 1 + 1 + 1 + 1 + 1 + 1 + 1 + 1 + 1 + 1 + 1 + 1 + 1 + 1 + 1 + 1 + 1 ≤ 21 by omega) (show 0 + 16 + 16 + 16 + 16 + 96 + 96 + 96 + 8 + 8 + 8 + 8 + 8 + 16 + 16 + 336 + 16 + 16 + 16 + 16 + 16 + 256 ≤ 1300 by omega) d_Model_init_230
  · rw [if_neg c_177]
    refine lv_iconst (v := 1) hx hb d_Model_init_180 (by decide) ?_
    refine lv_goto (tgt := 196) hx hb d_Model_init_181 (by decide) ?_
    refine zw_putI X hB fp_Model_75 (fun _ => hnm) 32 zs_self rfl d_Model_init_196 (fun H locs hB => ?_)
    refine lv_aload_n hx hb d_Model_init_199 rfl (lv_at hl 0 rfl) ?_
    refine lv_iload_n hx hb d_Model_init_200 rfl (lv_at hl 2 rfl) ?_
    refine lv_iconst (v := 1) hx hb d_Model_init_201 (by decide) ?_
    refine lv_icmp_ge (tgt := 209) hx hb d_Model_init_202 (by decide) (fun c_202 => ?_) (fun c_202 => ?_)
    · rw [if_pos c_202]
      refine lv_iload_n hx hb d_Model_init_209 rfl (lv_at hl 2 rfl) ?_
      refine lv_sipush (v := 1000) hx hb d_Model_init_210 (by decide) ?_
      refine lv_icmp_le (tgt := 222) hx hb d_Model_init_213 (by decide) (fun c_213 => ?_) (fun c_213 => ?_)
      · rw [if_pos c_213]
        refine lv_iload_n hx hb d_Model_init_222 rfl (lv_at hl 2 rfl) ?_
        refine zw_putI X hB fp_Model_79 (fun _ => hnm) 32 zs_self rfl d_Model_init_223 (fun H locs hB => ?_)
        refine lv_aload_n hx hb d_Model_init_226 rfl (lv_at hl 0 rfl) ?_
        refine zw_callVv X hB mv_Model_82 32 zs_self rfl (c_Model_clear (shK_Model_ok (sh := sh) (n := n)) (z0 + (30 + 5 * n) + 1 + 1 + 1 + 1 + 1 + 1 + 1 + 1 + 1 + 1 + 1 + 1 + 1 + 1 + 1 + 1 + 1 + 1 + 1 + 1 + 1) (zw_up (zw_up mi 32 1 1) 32 2 y) ml) rfl hl.1 ⟨Nat.le_of_ble_eq_true rfl, Nat.le_of_ble_eq_true rfl⟩ rfl (Nat.le_of_ble_eq_true rfl) ⟨show 0 + 1 + 1 + 1 + 1 + 1 + 1 + 1 + 1 + 1 + 1 + 1 + 1 + 1 + 1 + 1 + 1 + 1 + 1 + 1 + 1 + 1 + 0 ≤ 21 by omega, show 0 + 16 + 16 + 16 + 16 + 96 + 96 + 96 + 8 + 8 + 8 + 8 + 8 + 16 + 16 + 336 + 16 + 16 + 16 + 16 + 16 + 256 + 0 ≤ 1300 by omega⟩ d_Model_init_227 (fun H locs hB => ?_)
        exact zc_vretW X hr hlocks (hB.to (show _ = z0 + (51 + 5 * n) by omega)) rfl rfl rfl (show 0 + 1 + 1 + 1 + 1 + 1 + 1 + 1 + 1 + 1 + 1 + 1 + 1 + 1 + 1 + 1 + 1 + 1 + 1 + 1 + 1 + 1 ≤ 21 by omega) (show 0 + 16 + 16 + 16 + 16 + 96 + 96 + 96 + 8 + 8 + 8 + 8 + 8 + 16 + 16 + 336 + 16 + 16 + 16 + 16 + 16 + 256 ≤ 1300 by omega) d_Model_init_230
      · rw [if_neg c_213]
        refine lv_sipush (v := 1000) hx hb d_Model_init_216 (by decide) ?_
        refine lv_goto (tgt := 223) hx hb d_Model_init_219 (by decide) ?_
        refine zw_putI X hB fp_Model_79 (fun _ => hnm) 32 zs_self rfl d_Model_init_223 (fun H locs hB => ?_)
        refine lv_aload_n hx hb d_Model_init_226 rfl (lv_at hl 0 rfl) ?_
        refine zw_callVv X hB mv_Model_82 32 zs_self rfl (c_Model_clear (shK_Model_ok (sh := sh) (n := n)) (z0 + (30 + 5 * n) + 1 + 1 + 1 + 1 + 1 + 1 + 1 + 1 + 1 + 1 + 1 + 1 + 1 + 1 + 1 + 1 + 1 + 1 + 1 + 1 + 1) (zw_up (zw_up mi 32 1 1) 32 2 1000) ml) rfl hl.1 ⟨Nat.le_of_ble_eq_true rfl, Nat.le_of_ble_eq_true rfl⟩ rfl (Nat.le_of_ble_eq_true rfl) ⟨show 0 + 1 + 1 + 1 + 1 + 1 + 1 + 1 + 1 + 1 + 1 + 1 + 1 + 1 + 1 + 1 + 1 + 1 + 1 + 1 + 1 + 1 + 0 ≤ 21 by omega, show 0 + 16 + 16 + 16 + 16 + 96 + 96 + 96 + 8 + 8 + 8 + 8 + 8 + 16 + 16 + 336 + 16 + 16 + 16 + 16 + 16 + 256 + 0 ≤ 1300 by omega⟩ d_Model_init_227 (fun H locs hB => ?_)
        exact zc_vretW X hr hlocks (hB.to (show _ = z0 + (51 + 5 * n) by omega)) rfl rfl rfl (show 0 + 1 + 1 + 1 + 1 + 1 + 1 + 1 + 1 + 1 + 1 + 1 + 1 + 1 + 1 + 1 + 1 + 1 + 1 + 1 + 1 + 1 ≤ 21 by omega) (show 0 + 16 + 16 + 16 + 16 + 96 + 96 + 96 + 8 + 8 + 8 + 8 + 8 + 16 + 16 + 336 + 16 + 16 + 16 + 16 + 16 + 256 ≤ 1300 by omega) d_Model_init_230
    · rw [if_neg c_202]
      refine lv_iconst (v := 1) hx hb d_Model_init_205 (by decide) ?_
      refine lv_goto (tgt := 223) hx hb d_Model_init_206 (by decide) ?_
      refine zw_putI X hB fp_Model_79 (fun _ => hnm) 32 zs_self rfl d_Model_init_223 (fun H locs hB => ?_)
      refine lv_aload_n hx hb d_Model_init_226 rfl (lv_at hl 0 rfl) ?_
      refine zw_callVv X hB mv_Model_82 32 zs_self rfl (c_Model_clear (shK_Model_ok (sh := sh) (n := n)) (z0 + (30 + 5 * n) + 1 + 1 + 1 + 1 + 1 + 1 + 1 + 1 + 1 + 1 + 1 + 1 + 1 + 1 + 1 + 1 + 1 + 1 + 1 + 1 + 1) (zw_up (zw_up mi 32 1 1) 32 2 1) ml) rfl hl.1 ⟨Nat.le_of_ble_eq_true rfl, Nat.le_of_ble_eq_true rfl⟩ rfl (Nat.le_of_ble_eq_true rfl) ⟨show 0 + 1 + 1 + 1 + 1 + 1 + 1 + 1 + 1 + 1 + 1 + 1 + 1 + 1 + 1 + 1 + 1 + 1 + 1 + 1 + 1 + 1 + 0 ≤ 21 by omega, show 0 + 16 + 16 + 16 + 16 + 96 + 96 + 96 + 8 + 8 + 8 + 8 + 8 + 16 + 16 + 336 + 16 + 16 + 16 + 16 + 16 + 256 + 0 ≤ 1300 by omega⟩ d_Model_init_227 (fun H locs hB => ?_)
      exact zc_vretW X hr hlocks (hB.to (show _ = z0 + (51 + 5 * n) by omega)) rfl rfl rfl (show 0 + 1 + 1 + 1 + 1 + 1 + 1 + 1 + 1 + 1 + 1 + 1 + 1 + 1 + 1 + 1 + 1 + 1 + 1 + 1 + 1 + 1 ≤ 21 by omega) (show 0 + 16 + 16 + 16 + 16 + 96 + 96 + 96 + 8 + 8 + 8 + 8 + 8 + 16 + 16 + 336 + 16 + 16 + 16 + 16 + 16 + 256 ≤ 1300 by omega) d_Model_init_230
