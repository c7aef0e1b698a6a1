abbrev Y_TS_share : zc_Y := (⟨R_TS, "share", "(IIIJ)I"⟩, prog_1_method_2_code, 6, (some FieldType.int))
abbrev Y_TS_need : zc_Y := (⟨R_TS, "need", "(IIII)I"⟩, prog_1_method_3_code, 5, (some FieldType.int))
abbrev Y_TS_free : zc_Y := (⟨R_TS, "free", "(I)I"⟩, prog_1_method_4_code, 3, (some FieldType.int))
abbrev Y_TS_failing : zc_Y := (⟨R_TS, "failing", "(IIII)I"⟩, prog_1_method_5_code, 5, (some FieldType.int))
abbrev Y_TS_stop : zc_Y := (⟨R_TS, "stop", "(I)I"⟩, prog_1_method_6_code, 3, (some FieldType.int))
abbrev Y_TS_at : zc_Y := (⟨R_TS, "at", "(I)J"⟩, prog_1_method_8_code, 2, (some FieldType.long))
abbrev Y_TS_order : zc_Y := (⟨R_TS, "order", "(I)I"⟩, prog_1_method_9_code, 2, (some FieldType.int))
abbrev Y_TS_begun : zc_Y := (⟨R_TS, "begun", "(I)I"⟩, prog_1_method_10_code, 2, (some FieldType.int))
abbrev Y_TS_waited : zc_Y := (⟨R_TS, "waited", "(II)I"⟩, prog_1_method_11_code, 3, (some FieldType.int))
abbrev Y_TS_run : zc_Y := (⟨R_TS, "run", "(IJ)I"⟩, prog_1_method_7_code, 5, (some FieldType.int))
theorem d_TS_share_0 : decode prog_1_method_2_code 0 = .ok (.aload_n 0, 1) := by decide +kernel
theorem d_TS_share_1 : decode prog_1_method_2_code 1 = .ok (.iload_n 1, 1) := by decide +kernel
theorem d_TS_share_2 : decode prog_1_method_2_code 2 = .ok (.invokevirtual 39, 3) := by decide +kernel
theorem d_TS_share_5 : decode prog_1_method_2_code 5 = .ok (.ifCond .ne 13, 3) := by decide +kernel
theorem d_TS_share_8 : decode prog_1_method_2_code 8 = .ok (.new 43, 3) := by decide +kernel
theorem d_TS_share_11 : decode prog_1_method_2_code 11 = .ok (.dup, 1) := by decide +kernel
theorem d_TS_share_12 : decode prog_1_method_2_code 12 = .ok (.ldc 45, 2) := by decide +kernel
theorem d_TS_share_14 : decode prog_1_method_2_code 14 = .ok (.invokespecial 47, 3) := by decide +kernel
theorem d_TS_share_17 : decode prog_1_method_2_code 17 = .ok (.athrow, 1) := by decide +kernel
theorem d_TS_share_18 : decode prog_1_method_2_code 18 = .ok (.iload_n 2, 1) := by decide +kernel
theorem d_TS_share_19 : decode prog_1_method_2_code 19 = .ok (.iconst 1, 1) := by decide +kernel
theorem d_TS_share_20 : decode prog_1_method_2_code 20 = .ok (.bipush 20, 2) := by decide +kernel
theorem d_TS_share_22 : decode prog_1_method_2_code 22 = .ok (.invokestatic 50, 3) := by decide +kernel
theorem d_TS_share_25 : decode prog_1_method_2_code 25 = .ok (.ifCond .eq 18, 3) := by decide +kernel
theorem d_TS_share_28 : decode prog_1_method_2_code 28 = .ok (.iload_n 3, 1) := by decide +kernel
theorem d_TS_share_29 : decode prog_1_method_2_code 29 = .ok (.iconst 1, 1) := by decide +kernel
theorem d_TS_share_30 : decode prog_1_method_2_code 30 = .ok (.aload_n 0, 1) := by decide +kernel
theorem d_TS_share_31 : decode prog_1_method_2_code 31 = .ok (.getfield 18, 3) := by decide +kernel
theorem d_TS_share_34 : decode prog_1_method_2_code 34 = .ok (.getfield 54, 3) := by decide +kernel
theorem d_TS_share_37 : decode prog_1_method_2_code 37 = .ok (.invokestatic 50, 3) := by decide +kernel
theorem d_TS_share_40 : decode prog_1_method_2_code 40 = .ok (.ifCond .ne 13, 3) := by decide +kernel
theorem d_TS_share_43 : decode prog_1_method_2_code 43 = .ok (.new 58, 3) := by decide +kernel
theorem d_TS_share_46 : decode prog_1_method_2_code 46 = .ok (.dup, 1) := by decide +kernel
theorem d_TS_share_47 : decode prog_1_method_2_code 47 = .ok (.ldc 60, 2) := by decide +kernel
theorem d_TS_share_49 : decode prog_1_method_2_code 49 = .ok (.invokespecial 62, 3) := by decide +kernel
theorem d_TS_share_52 : decode prog_1_method_2_code 52 = .ok (.athrow, 1) := by decide +kernel
theorem d_TS_share_53 : decode prog_1_method_2_code 53 = .ok (.aload_n 0, 1) := by decide +kernel
theorem d_TS_share_54 : decode prog_1_method_2_code 54 = .ok (.getfield 18, 3) := by decide +kernel
theorem d_TS_share_57 : decode prog_1_method_2_code 57 = .ok (.getfield 63, 3) := by decide +kernel
theorem d_TS_share_60 : decode prog_1_method_2_code 60 = .ok (.iload_n 1, 1) := by decide +kernel
theorem d_TS_share_61 : decode prog_1_method_2_code 61 = .ok (.iload_n 2, 1) := by decide +kernel
theorem d_TS_share_62 : decode prog_1_method_2_code 62 = .ok (.iastore, 1) := by decide +kernel
theorem d_TS_share_63 : decode prog_1_method_2_code 63 = .ok (.aload_n 0, 1) := by decide +kernel
theorem d_TS_share_64 : decode prog_1_method_2_code 64 = .ok (.getfield 18, 3) := by decide +kernel
theorem d_TS_share_67 : decode prog_1_method_2_code 67 = .ok (.getfield 67, 3) := by decide +kernel
theorem d_TS_share_70 : decode prog_1_method_2_code 70 = .ok (.iload_n 1, 1) := by decide +kernel
theorem d_TS_share_71 : decode prog_1_method_2_code 71 = .ok (.iload_n 3, 1) := by decide +kernel
theorem d_TS_share_72 : decode prog_1_method_2_code 72 = .ok (.iastore, 1) := by decide +kernel
theorem d_TS_share_73 : decode prog_1_method_2_code 73 = .ok (.aload_n 0, 1) := by decide +kernel
theorem d_TS_share_74 : decode prog_1_method_2_code 74 = .ok (.getfield 18, 3) := by decide +kernel
theorem d_TS_share_77 : decode prog_1_method_2_code 77 = .ok (.getfield 70, 3) := by decide +kernel
theorem d_TS_share_80 : decode prog_1_method_2_code 80 = .ok (.iload_n 1, 1) := by decide +kernel
theorem d_TS_share_81 : decode prog_1_method_2_code 81 = .ok (.lload 4, 2) := by decide +kernel
theorem d_TS_share_83 : decode prog_1_method_2_code 83 = .ok (.lastore, 1) := by decide +kernel
theorem d_TS_share_84 : decode prog_1_method_2_code 84 = .ok (.aload_n 0, 1) := by decide +kernel
theorem d_TS_share_85 : decode prog_1_method_2_code 85 = .ok (.getfield 18, 3) := by decide +kernel
theorem d_TS_share_88 : decode prog_1_method_2_code 88 = .ok (.getfield 73, 3) := by decide +kernel
theorem d_TS_share_91 : decode prog_1_method_2_code 91 = .ok (.getfield 77, 3) := by decide +kernel
theorem d_TS_share_94 : decode prog_1_method_2_code 94 = .ok (.iload_n 1, 1) := by decide +kernel
theorem d_TS_share_95 : decode prog_1_method_2_code 95 = .ok (.iaload, 1) := by decide +kernel
theorem d_TS_share_96 : decode prog_1_method_2_code 96 = .ok (.ireturn, 1) := by decide +kernel
theorem d_TS_need_0 : decode prog_1_method_3_code 0 = .ok (.aload_n 0, 1) := by decide +kernel
theorem d_TS_need_1 : decode prog_1_method_3_code 1 = .ok (.iload_n 1, 1) := by decide +kernel
theorem d_TS_need_2 : decode prog_1_method_3_code 2 = .ok (.invokevirtual 39, 3) := by decide +kernel
theorem d_TS_need_5 : decode prog_1_method_3_code 5 = .ok (.ifCond .eq 11, 3) := by decide +kernel
theorem d_TS_need_8 : decode prog_1_method_3_code 8 = .ok (.aload_n 0, 1) := by decide +kernel
theorem d_TS_need_9 : decode prog_1_method_3_code 9 = .ok (.iload_n 3, 1) := by decide +kernel
theorem d_TS_need_10 : decode prog_1_method_3_code 10 = .ok (.invokevirtual 39, 3) := by decide +kernel
theorem d_TS_need_13 : decode prog_1_method_3_code 13 = .ok (.ifCond .ne 13, 3) := by decide +kernel
theorem d_TS_need_16 : decode prog_1_method_3_code 16 = .ok (.new 43, 3) := by decide +kernel
theorem d_TS_need_19 : decode prog_1_method_3_code 19 = .ok (.dup, 1) := by decide +kernel
theorem d_TS_need_20 : decode prog_1_method_3_code 20 = .ok (.ldc 45, 2) := by decide +kernel
theorem d_TS_need_22 : decode prog_1_method_3_code 22 = .ok (.invokespecial 47, 3) := by decide +kernel
theorem d_TS_need_25 : decode prog_1_method_3_code 25 = .ok (.athrow, 1) := by decide +kernel
theorem d_TS_need_26 : decode prog_1_method_3_code 26 = .ok (.iload_n 2, 1) := by decide +kernel
theorem d_TS_need_27 : decode prog_1_method_3_code 27 = .ok (.invokestatic 82, 3) := by decide +kernel
theorem d_TS_need_30 : decode prog_1_method_3_code 30 = .ok (.ifCond .eq 19, 3) := by decide +kernel
theorem d_TS_need_33 : decode prog_1_method_3_code 33 = .ok (.iload 4, 2) := by decide +kernel
theorem d_TS_need_35 : decode prog_1_method_3_code 35 = .ok (.iconst 1, 1) := by decide +kernel
theorem d_TS_need_36 : decode prog_1_method_3_code 36 = .ok (.bipush 20, 2) := by decide +kernel
theorem d_TS_need_38 : decode prog_1_method_3_code 38 = .ok (.invokestatic 50, 3) := by decide +kernel
theorem d_TS_need_41 : decode prog_1_method_3_code 41 = .ok (.ifCond .eq 8, 3) := by decide +kernel
theorem d_TS_need_44 : decode prog_1_method_3_code 44 = .ok (.iload_n 3, 1) := by decide +kernel
theorem d_TS_need_45 : decode prog_1_method_3_code 45 = .ok (.iload_n 1, 1) := by decide +kernel
theorem d_TS_need_46 : decode prog_1_method_3_code 46 = .ok (.if_icmp .ne 13, 3) := by decide +kernel
theorem d_TS_need_49 : decode prog_1_method_3_code 49 = .ok (.new 58, 3) := by decide +kernel
theorem d_TS_need_52 : decode prog_1_method_3_code 52 = .ok (.dup, 1) := by decide +kernel
theorem d_TS_need_53 : decode prog_1_method_3_code 53 = .ok (.ldc 85, 2) := by decide +kernel
theorem d_TS_need_55 : decode prog_1_method_3_code 55 = .ok (.invokespecial 62, 3) := by decide +kernel
theorem d_TS_need_58 : decode prog_1_method_3_code 58 = .ok (.athrow, 1) := by decide +kernel
theorem d_TS_need_59 : decode prog_1_method_3_code 59 = .ok (.aload_n 0, 1) := by decide +kernel
theorem d_TS_need_60 : decode prog_1_method_3_code 60 = .ok (.getfield 18, 3) := by decide +kernel
theorem d_TS_need_63 : decode prog_1_method_3_code 63 = .ok (.getfield 73, 3) := by decide +kernel
theorem d_TS_need_66 : decode prog_1_method_3_code 66 = .ok (.getfield 77, 3) := by decide +kernel
theorem d_TS_need_69 : decode prog_1_method_3_code 69 = .ok (.iload_n 1, 1) := by decide +kernel
theorem d_TS_need_70 : decode prog_1_method_3_code 70 = .ok (.iaload, 1) := by decide +kernel
theorem d_TS_need_71 : decode prog_1_method_3_code 71 = .ok (.bipush 6, 2) := by decide +kernel
theorem d_TS_need_73 : decode prog_1_method_3_code 73 = .ok (.if_icmp .lt 13, 3) := by decide +kernel
theorem d_TS_need_76 : decode prog_1_method_3_code 76 = .ok (.new 87, 3) := by decide +kernel
theorem d_TS_need_79 : decode prog_1_method_3_code 79 = .ok (.dup, 1) := by decide +kernel
theorem d_TS_need_80 : decode prog_1_method_3_code 80 = .ok (.ldc 89, 2) := by decide +kernel
theorem d_TS_need_82 : decode prog_1_method_3_code 82 = .ok (.invokespecial 91, 3) := by decide +kernel
theorem d_TS_need_85 : decode prog_1_method_3_code 85 = .ok (.athrow, 1) := by decide +kernel
theorem d_TS_need_86 : decode prog_1_method_3_code 86 = .ok (.aload_n 0, 1) := by decide +kernel
theorem d_TS_need_87 : decode prog_1_method_3_code 87 = .ok (.getfield 18, 3) := by decide +kernel
theorem d_TS_need_90 : decode prog_1_method_3_code 90 = .ok (.getfield 73, 3) := by decide +kernel
theorem d_TS_need_93 : decode prog_1_method_3_code 93 = .ok (.iload_n 1, 1) := by decide +kernel
theorem d_TS_need_94 : decode prog_1_method_3_code 94 = .ok (.iload_n 2, 1) := by decide +kernel
theorem d_TS_need_95 : decode prog_1_method_3_code 95 = .ok (.iload_n 3, 1) := by decide +kernel
theorem d_TS_need_96 : decode prog_1_method_3_code 96 = .ok (.iload 4, 2) := by decide +kernel
theorem d_TS_need_98 : decode prog_1_method_3_code 98 = .ok (.invokevirtual 92, 3) := by decide +kernel
theorem d_TS_need_101 : decode prog_1_method_3_code 101 = .ok (.ireturn, 1) := by decide +kernel
theorem d_TS_free_0 : decode prog_1_method_4_code 0 = .ok (.aload_n 0, 1) := by decide +kernel
theorem d_TS_free_1 : decode prog_1_method_4_code 1 = .ok (.iload_n 1, 1) := by decide +kernel
theorem d_TS_free_2 : decode prog_1_method_4_code 2 = .ok (.invokevirtual 39, 3) := by decide +kernel
theorem d_TS_free_5 : decode prog_1_method_4_code 5 = .ok (.ifCond .ne 13, 3) := by decide +kernel
theorem d_TS_free_8 : decode prog_1_method_4_code 8 = .ok (.new 43, 3) := by decide +kernel
theorem d_TS_free_11 : decode prog_1_method_4_code 11 = .ok (.dup, 1) := by decide +kernel
theorem d_TS_free_12 : decode prog_1_method_4_code 12 = .ok (.ldc 45, 2) := by decide +kernel
theorem d_TS_free_14 : decode prog_1_method_4_code 14 = .ok (.invokespecial 47, 3) := by decide +kernel
theorem d_TS_free_17 : decode prog_1_method_4_code 17 = .ok (.athrow, 1) := by decide +kernel
theorem d_TS_free_18 : decode prog_1_method_4_code 18 = .ok (.aload_n 0, 1) := by decide +kernel
theorem d_TS_free_19 : decode prog_1_method_4_code 19 = .ok (.getfield 18, 3) := by decide +kernel
theorem d_TS_free_22 : decode prog_1_method_4_code 22 = .ok (.getfield 73, 3) := by decide +kernel
theorem d_TS_free_25 : decode prog_1_method_4_code 25 = .ok (.getfield 77, 3) := by decide +kernel
theorem d_TS_free_28 : decode prog_1_method_4_code 28 = .ok (.iload_n 1, 1) := by decide +kernel
theorem d_TS_free_29 : decode prog_1_method_4_code 29 = .ok (.iaload, 1) := by decide +kernel
theorem d_TS_free_30 : decode prog_1_method_4_code 30 = .ok (.istore_n 2, 1) := by decide +kernel
theorem d_TS_free_31 : decode prog_1_method_4_code 31 = .ok (.aload_n 0, 1) := by decide +kernel
theorem d_TS_free_32 : decode prog_1_method_4_code 32 = .ok (.getfield 18, 3) := by decide +kernel
theorem d_TS_free_35 : decode prog_1_method_4_code 35 = .ok (.getfield 73, 3) := by decide +kernel
theorem d_TS_free_38 : decode prog_1_method_4_code 38 = .ok (.getfield 77, 3) := by decide +kernel
theorem d_TS_free_41 : decode prog_1_method_4_code 41 = .ok (.iload_n 1, 1) := by decide +kernel
theorem d_TS_free_42 : decode prog_1_method_4_code 42 = .ok (.iconst 0, 1) := by decide +kernel
theorem d_TS_free_43 : decode prog_1_method_4_code 43 = .ok (.iastore, 1) := by decide +kernel
theorem d_TS_free_44 : decode prog_1_method_4_code 44 = .ok (.iload_n 2, 1) := by decide +kernel
theorem d_TS_free_45 : decode prog_1_method_4_code 45 = .ok (.ireturn, 1) := by decide +kernel
theorem d_TS_failing_0 : decode prog_1_method_5_code 0 = .ok (.aload_n 0, 1) := by decide +kernel
theorem d_TS_failing_1 : decode prog_1_method_5_code 1 = .ok (.iload_n 2, 1) := by decide +kernel
theorem d_TS_failing_2 : decode prog_1_method_5_code 2 = .ok (.invokevirtual 39, 3) := by decide +kernel
theorem d_TS_failing_5 : decode prog_1_method_5_code 5 = .ok (.ifCond .ne 13, 3) := by decide +kernel
theorem d_TS_failing_8 : decode prog_1_method_5_code 8 = .ok (.new 43, 3) := by decide +kernel
theorem d_TS_failing_11 : decode prog_1_method_5_code 11 = .ok (.dup, 1) := by decide +kernel
theorem d_TS_failing_12 : decode prog_1_method_5_code 12 = .ok (.ldc 45, 2) := by decide +kernel
theorem d_TS_failing_14 : decode prog_1_method_5_code 14 = .ok (.invokespecial 47, 3) := by decide +kernel
theorem d_TS_failing_17 : decode prog_1_method_5_code 17 = .ok (.athrow, 1) := by decide +kernel
theorem d_TS_failing_18 : decode prog_1_method_5_code 18 = .ok (.iload_n 1, 1) := by decide +kernel
theorem d_TS_failing_19 : decode prog_1_method_5_code 19 = .ok (.iconst 0, 1) := by decide +kernel
theorem d_TS_failing_20 : decode prog_1_method_5_code 20 = .ok (.bipush 15, 2) := by decide +kernel
theorem d_TS_failing_22 : decode prog_1_method_5_code 22 = .ok (.invokestatic 50, 3) := by decide +kernel
theorem d_TS_failing_25 : decode prog_1_method_5_code 25 = .ok (.ifCond .eq 21, 3) := by decide +kernel
theorem d_TS_failing_28 : decode prog_1_method_5_code 28 = .ok (.iload_n 3, 1) := by decide +kernel
theorem d_TS_failing_29 : decode prog_1_method_5_code 29 = .ok (.invokestatic 82, 3) := by decide +kernel
theorem d_TS_failing_32 : decode prog_1_method_5_code 32 = .ok (.ifCond .eq 14, 3) := by decide +kernel
theorem d_TS_failing_35 : decode prog_1_method_5_code 35 = .ok (.iload 4, 2) := by decide +kernel
theorem d_TS_failing_37 : decode prog_1_method_5_code 37 = .ok (.iconst 1, 1) := by decide +kernel
theorem d_TS_failing_38 : decode prog_1_method_5_code 38 = .ok (.bipush 9, 2) := by decide +kernel
theorem d_TS_failing_40 : decode prog_1_method_5_code 40 = .ok (.invokestatic 50, 3) := by decide +kernel
theorem d_TS_failing_43 : decode prog_1_method_5_code 43 = .ok (.ifCond .ne 13, 3) := by decide +kernel
theorem d_TS_failing_46 : decode prog_1_method_5_code 46 = .ok (.new 58, 3) := by decide +kernel
theorem d_TS_failing_49 : decode prog_1_method_5_code 49 = .ok (.dup, 1) := by decide +kernel
theorem d_TS_failing_50 : decode prog_1_method_5_code 50 = .ok (.ldc 96, 2) := by decide +kernel
theorem d_TS_failing_52 : decode prog_1_method_5_code 52 = .ok (.invokespecial 62, 3) := by decide +kernel
theorem d_TS_failing_55 : decode prog_1_method_5_code 55 = .ok (.athrow, 1) := by decide +kernel
theorem d_TS_failing_56 : decode prog_1_method_5_code 56 = .ok (.aload_n 0, 1) := by decide +kernel
theorem d_TS_failing_57 : decode prog_1_method_5_code 57 = .ok (.getfield 18, 3) := by decide +kernel
theorem d_TS_failing_60 : decode prog_1_method_5_code 60 = .ok (.getfield 98, 3) := by decide +kernel
theorem d_TS_failing_63 : decode prog_1_method_5_code 63 = .ok (.getfield 102, 3) := by decide +kernel
theorem d_TS_failing_66 : decode prog_1_method_5_code 66 = .ok (.bipush 8, 2) := by decide +kernel
theorem d_TS_failing_68 : decode prog_1_method_5_code 68 = .ok (.if_icmp .lt 13, 3) := by decide +kernel
theorem d_TS_failing_71 : decode prog_1_method_5_code 71 = .ok (.new 87, 3) := by decide +kernel
theorem d_TS_failing_74 : decode prog_1_method_5_code 74 = .ok (.dup, 1) := by decide +kernel
theorem d_TS_failing_75 : decode prog_1_method_5_code 75 = .ok (.ldc 106, 2) := by decide +kernel
theorem d_TS_failing_77 : decode prog_1_method_5_code 77 = .ok (.invokespecial 91, 3) := by decide +kernel
theorem d_TS_failing_80 : decode prog_1_method_5_code 80 = .ok (.athrow, 1) := by decide +kernel
theorem d_TS_failing_81 : decode prog_1_method_5_code 81 = .ok (.aload_n 0, 1) := by decide +kernel
theorem d_TS_failing_82 : decode prog_1_method_5_code 82 = .ok (.getfield 18, 3) := by decide +kernel
theorem d_TS_failing_85 : decode prog_1_method_5_code 85 = .ok (.getfield 98, 3) := by decide +kernel
theorem d_TS_failing_88 : decode prog_1_method_5_code 88 = .ok (.iload_n 1, 1) := by decide +kernel
theorem d_TS_failing_89 : decode prog_1_method_5_code 89 = .ok (.iload_n 2, 1) := by decide +kernel
theorem d_TS_failing_90 : decode prog_1_method_5_code 90 = .ok (.iload_n 3, 1) := by decide +kernel
theorem d_TS_failing_91 : decode prog_1_method_5_code 91 = .ok (.iload 4, 2) := by decide +kernel
theorem d_TS_failing_93 : decode prog_1_method_5_code 93 = .ok (.invokevirtual 108, 3) := by decide +kernel
theorem d_TS_failing_96 : decode prog_1_method_5_code 96 = .ok (.ireturn, 1) := by decide +kernel
theorem d_TS_stop_0 : decode prog_1_method_6_code 0 = .ok (.iload_n 1, 1) := by decide +kernel
theorem d_TS_stop_1 : decode prog_1_method_6_code 1 = .ok (.iconst (-1), 1) := by decide +kernel
theorem d_TS_stop_2 : decode prog_1_method_6_code 2 = .ok (.if_icmp .eq 21, 3) := by decide +kernel
theorem d_TS_stop_5 : decode prog_1_method_6_code 5 = .ok (.aload_n 0, 1) := by decide +kernel
theorem d_TS_stop_6 : decode prog_1_method_6_code 6 = .ok (.iload_n 1, 1) := by decide +kernel
theorem d_TS_stop_7 : decode prog_1_method_6_code 7 = .ok (.invokevirtual 39, 3) := by decide +kernel
theorem d_TS_stop_10 : decode prog_1_method_6_code 10 = .ok (.ifCond .ne 13, 3) := by decide +kernel
theorem d_TS_stop_13 : decode prog_1_method_6_code 13 = .ok (.new 43, 3) := by decide +kernel
theorem d_TS_stop_16 : decode prog_1_method_6_code 16 = .ok (.dup, 1) := by decide +kernel
theorem d_TS_stop_17 : decode prog_1_method_6_code 17 = .ok (.ldc 45, 2) := by decide +kernel
theorem d_TS_stop_19 : decode prog_1_method_6_code 19 = .ok (.invokespecial 47, 3) := by decide +kernel
theorem d_TS_stop_22 : decode prog_1_method_6_code 22 = .ok (.athrow, 1) := by decide +kernel
theorem d_TS_stop_23 : decode prog_1_method_6_code 23 = .ok (.aload_n 0, 1) := by decide +kernel
theorem d_TS_stop_24 : decode prog_1_method_6_code 24 = .ok (.getfield 18, 3) := by decide +kernel
theorem d_TS_stop_27 : decode prog_1_method_6_code 27 = .ok (.getfield 109, 3) := by decide +kernel
theorem d_TS_stop_30 : decode prog_1_method_6_code 30 = .ok (.istore_n 2, 1) := by decide +kernel
theorem d_TS_stop_31 : decode prog_1_method_6_code 31 = .ok (.aload_n 0, 1) := by decide +kernel
theorem d_TS_stop_32 : decode prog_1_method_6_code 32 = .ok (.getfield 18, 3) := by decide +kernel
theorem d_TS_stop_35 : decode prog_1_method_6_code 35 = .ok (.iload_n 1, 1) := by decide +kernel
theorem d_TS_stop_36 : decode prog_1_method_6_code 36 = .ok (.putfield 109, 3) := by decide +kernel
theorem d_TS_stop_39 : decode prog_1_method_6_code 39 = .ok (.iload_n 2, 1) := by decide +kernel
theorem d_TS_stop_40 : decode prog_1_method_6_code 40 = .ok (.ireturn, 1) := by decide +kernel
theorem d_TS_at_0 : decode prog_1_method_8_code 0 = .ok (.aload_n 0, 1) := by decide +kernel
theorem d_TS_at_1 : decode prog_1_method_8_code 1 = .ok (.iload_n 1, 1) := by decide +kernel
theorem d_TS_at_2 : decode prog_1_method_8_code 2 = .ok (.invokevirtual 39, 3) := by decide +kernel
theorem d_TS_at_5 : decode prog_1_method_8_code 5 = .ok (.ifCond .ne 13, 3) := by decide +kernel
theorem d_TS_at_8 : decode prog_1_method_8_code 8 = .ok (.new 43, 3) := by decide +kernel
theorem d_TS_at_11 : decode prog_1_method_8_code 11 = .ok (.dup, 1) := by decide +kernel
theorem d_TS_at_12 : decode prog_1_method_8_code 12 = .ok (.ldc 45, 2) := by decide +kernel
theorem d_TS_at_14 : decode prog_1_method_8_code 14 = .ok (.invokespecial 47, 3) := by decide +kernel
theorem d_TS_at_17 : decode prog_1_method_8_code 17 = .ok (.athrow, 1) := by decide +kernel
theorem d_TS_at_18 : decode prog_1_method_8_code 18 = .ok (.aload_n 0, 1) := by decide +kernel
theorem d_TS_at_19 : decode prog_1_method_8_code 19 = .ok (.getfield 31, 3) := by decide +kernel
theorem d_TS_at_22 : decode prog_1_method_8_code 22 = .ok (.iload_n 1, 1) := by decide +kernel
theorem d_TS_at_23 : decode prog_1_method_8_code 23 = .ok (.baload, 1) := by decide +kernel
theorem d_TS_at_24 : decode prog_1_method_8_code 24 = .ok (.ifCond .ne 13, 3) := by decide +kernel
theorem d_TS_at_27 : decode prog_1_method_8_code 27 = .ok (.new 121, 3) := by decide +kernel
theorem d_TS_at_30 : decode prog_1_method_8_code 30 = .ok (.dup, 1) := by decide +kernel
theorem d_TS_at_31 : decode prog_1_method_8_code 31 = .ok (.ldc 123, 2) := by decide +kernel
theorem d_TS_at_33 : decode prog_1_method_8_code 33 = .ok (.invokespecial 125, 3) := by decide +kernel
theorem d_TS_at_36 : decode prog_1_method_8_code 36 = .ok (.athrow, 1) := by decide +kernel
theorem d_TS_at_37 : decode prog_1_method_8_code 37 = .ok (.aload_n 0, 1) := by decide +kernel
theorem d_TS_at_38 : decode prog_1_method_8_code 38 = .ok (.getfield 35, 3) := by decide +kernel
theorem d_TS_at_41 : decode prog_1_method_8_code 41 = .ok (.iload_n 1, 1) := by decide +kernel
theorem d_TS_at_42 : decode prog_1_method_8_code 42 = .ok (.laload, 1) := by decide +kernel
theorem d_TS_at_43 : decode prog_1_method_8_code 43 = .ok (.lreturn, 1) := by decide +kernel
theorem d_TS_order_0 : decode prog_1_method_9_code 0 = .ok (.iload_n 1, 1) := by decide +kernel
theorem d_TS_order_1 : decode prog_1_method_9_code 1 = .ok (.iconst 0, 1) := by decide +kernel
theorem d_TS_order_2 : decode prog_1_method_9_code 2 = .ok (.aload_n 0, 1) := by decide +kernel
theorem d_TS_order_3 : decode prog_1_method_9_code 3 = .ok (.getfield 27, 3) := by decide +kernel
theorem d_TS_order_6 : decode prog_1_method_9_code 6 = .ok (.getfield 126, 3) := by decide +kernel
theorem d_TS_order_9 : decode prog_1_method_9_code 9 = .ok (.iconst 1, 1) := by decide +kernel
theorem d_TS_order_10 : decode prog_1_method_9_code 10 = .ok (.isub, 1) := by decide +kernel
theorem d_TS_order_11 : decode prog_1_method_9_code 11 = .ok (.invokestatic 50, 3) := by decide +kernel
theorem d_TS_order_14 : decode prog_1_method_9_code 14 = .ok (.ifCond .ne 13, 3) := by decide +kernel
theorem d_TS_order_17 : decode prog_1_method_9_code 17 = .ok (.new 43, 3) := by decide +kernel
theorem d_TS_order_20 : decode prog_1_method_9_code 20 = .ok (.dup, 1) := by decide +kernel
theorem d_TS_order_21 : decode prog_1_method_9_code 21 = .ok (.ldc 129, 2) := by decide +kernel
theorem d_TS_order_23 : decode prog_1_method_9_code 23 = .ok (.invokespecial 47, 3) := by decide +kernel
theorem d_TS_order_26 : decode prog_1_method_9_code 26 = .ok (.athrow, 1) := by decide +kernel
theorem d_TS_order_27 : decode prog_1_method_9_code 27 = .ok (.aload_n 0, 1) := by decide +kernel
theorem d_TS_order_28 : decode prog_1_method_9_code 28 = .ok (.getfield 27, 3) := by decide +kernel
theorem d_TS_order_31 : decode prog_1_method_9_code 31 = .ok (.getfield 131, 3) := by decide +kernel
theorem d_TS_order_34 : decode prog_1_method_9_code 34 = .ok (.iload_n 1, 1) := by decide +kernel
theorem d_TS_order_35 : decode prog_1_method_9_code 35 = .ok (.iaload, 1) := by decide +kernel
theorem d_TS_order_36 : decode prog_1_method_9_code 36 = .ok (.ireturn, 1) := by decide +kernel
theorem d_TS_begun_0 : decode prog_1_method_10_code 0 = .ok (.aload_n 0, 1) := by decide +kernel
theorem d_TS_begun_1 : decode prog_1_method_10_code 1 = .ok (.iload_n 1, 1) := by decide +kernel
theorem d_TS_begun_2 : decode prog_1_method_10_code 2 = .ok (.invokevirtual 39, 3) := by decide +kernel
theorem d_TS_begun_5 : decode prog_1_method_10_code 5 = .ok (.ifCond .ne 13, 3) := by decide +kernel
theorem d_TS_begun_8 : decode prog_1_method_10_code 8 = .ok (.new 43, 3) := by decide +kernel
theorem d_TS_begun_11 : decode prog_1_method_10_code 11 = .ok (.dup, 1) := by decide +kernel
theorem d_TS_begun_12 : decode prog_1_method_10_code 12 = .ok (.ldc 45, 2) := by decide +kernel
theorem d_TS_begun_14 : decode prog_1_method_10_code 14 = .ok (.invokespecial 47, 3) := by decide +kernel
theorem d_TS_begun_17 : decode prog_1_method_10_code 17 = .ok (.athrow, 1) := by decide +kernel
theorem d_TS_begun_18 : decode prog_1_method_10_code 18 = .ok (.aload_n 0, 1) := by decide +kernel
theorem d_TS_begun_19 : decode prog_1_method_10_code 19 = .ok (.getfield 27, 3) := by decide +kernel
theorem d_TS_begun_22 : decode prog_1_method_10_code 22 = .ok (.getfield 134, 3) := by decide +kernel
theorem d_TS_begun_25 : decode prog_1_method_10_code 25 = .ok (.iload_n 1, 1) := by decide +kernel
theorem d_TS_begun_26 : decode prog_1_method_10_code 26 = .ok (.iaload, 1) := by decide +kernel
theorem d_TS_begun_27 : decode prog_1_method_10_code 27 = .ok (.ireturn, 1) := by decide +kernel
theorem d_TS_waited_0 : decode prog_1_method_11_code 0 = .ok (.aload_n 0, 1) := by decide +kernel
theorem d_TS_waited_1 : decode prog_1_method_11_code 1 = .ok (.iload_n 1, 1) := by decide +kernel
theorem d_TS_waited_2 : decode prog_1_method_11_code 2 = .ok (.invokevirtual 39, 3) := by decide +kernel
theorem d_TS_waited_5 : decode prog_1_method_11_code 5 = .ok (.ifCond .eq 11, 3) := by decide +kernel
theorem d_TS_waited_8 : decode prog_1_method_11_code 8 = .ok (.aload_n 0, 1) := by decide +kernel
theorem d_TS_waited_9 : decode prog_1_method_11_code 9 = .ok (.iload_n 2, 1) := by decide +kernel
theorem d_TS_waited_10 : decode prog_1_method_11_code 10 = .ok (.invokevirtual 39, 3) := by decide +kernel
theorem d_TS_waited_13 : decode prog_1_method_11_code 13 = .ok (.ifCond .ne 13, 3) := by decide +kernel
theorem d_TS_waited_16 : decode prog_1_method_11_code 16 = .ok (.new 43, 3) := by decide +kernel
theorem d_TS_waited_19 : decode prog_1_method_11_code 19 = .ok (.dup, 1) := by decide +kernel
theorem d_TS_waited_20 : decode prog_1_method_11_code 20 = .ok (.ldc 45, 2) := by decide +kernel
theorem d_TS_waited_22 : decode prog_1_method_11_code 22 = .ok (.invokespecial 47, 3) := by decide +kernel
theorem d_TS_waited_25 : decode prog_1_method_11_code 25 = .ok (.athrow, 1) := by decide +kernel
theorem d_TS_waited_26 : decode prog_1_method_11_code 26 = .ok (.aload_n 0, 1) := by decide +kernel
theorem d_TS_waited_27 : decode prog_1_method_11_code 27 = .ok (.getfield 27, 3) := by decide +kernel
theorem d_TS_waited_30 : decode prog_1_method_11_code 30 = .ok (.getfield 137, 3) := by decide +kernel
theorem d_TS_waited_33 : decode prog_1_method_11_code 33 = .ok (.iload_n 1, 1) := by decide +kernel
theorem d_TS_waited_34 : decode prog_1_method_11_code 34 = .ok (.aaload, 1) := by decide +kernel
theorem d_TS_waited_35 : decode prog_1_method_11_code 35 = .ok (.iload_n 2, 1) := by decide +kernel
theorem d_TS_waited_36 : decode prog_1_method_11_code 36 = .ok (.iaload, 1) := by decide +kernel
theorem d_TS_waited_37 : decode prog_1_method_11_code 37 = .ok (.ireturn, 1) := by decide +kernel
theorem d_TS_run_0 : decode prog_1_method_7_code 0 = .ok (.iload_n 1, 1) := by decide +kernel
theorem d_TS_run_1 : decode prog_1_method_7_code 1 = .ok (.iconst 1, 1) := by decide +kernel
theorem d_TS_run_2 : decode prog_1_method_7_code 2 = .ok (.bipush 16, 2) := by decide +kernel
theorem d_TS_run_4 : decode prog_1_method_7_code 4 = .ok (.invokestatic 50, 3) := by decide +kernel
theorem d_TS_run_7 : decode prog_1_method_7_code 7 = .ok (.ifCond .ne 13, 3) := by decide +kernel
theorem d_TS_run_10 : decode prog_1_method_7_code 10 = .ok (.new 58, 3) := by decide +kernel
theorem d_TS_run_13 : decode prog_1_method_7_code 13 = .ok (.dup, 1) := by decide +kernel
theorem d_TS_run_14 : decode prog_1_method_7_code 14 = .ok (.ldc 112, 2) := by decide +kernel
theorem d_TS_run_16 : decode prog_1_method_7_code 16 = .ok (.invokespecial 62, 3) := by decide +kernel
theorem d_TS_run_19 : decode prog_1_method_7_code 19 = .ok (.athrow, 1) := by decide +kernel
theorem d_TS_run_20 : decode prog_1_method_7_code 20 = .ok (.aload_n 0, 1) := by decide +kernel
theorem d_TS_run_21 : decode prog_1_method_7_code 21 = .ok (.getfield 27, 3) := by decide +kernel
theorem d_TS_run_24 : decode prog_1_method_7_code 24 = .ok (.iload_n 1, 1) := by decide +kernel
theorem d_TS_run_25 : decode prog_1_method_7_code 25 = .ok (.lload_n 2, 1) := by decide +kernel
theorem d_TS_run_26 : decode prog_1_method_7_code 26 = .ok (.invokevirtual 114, 3) := by decide +kernel
theorem d_TS_run_29 : decode prog_1_method_7_code 29 = .ok (.istore 4, 2) := by decide +kernel
theorem d_TS_run_31 : decode prog_1_method_7_code 31 = .ok (.iload 4, 2) := by decide +kernel
theorem d_TS_run_33 : decode prog_1_method_7_code 33 = .ok (.ifCond .eq 9, 3) := by decide +kernel
theorem d_TS_run_36 : decode prog_1_method_7_code 36 = .ok (.iload 4, 2) := by decide +kernel
theorem d_TS_run_38 : decode prog_1_method_7_code 38 = .ok (.iconst 1, 1) := by decide +kernel
theorem d_TS_run_39 : decode prog_1_method_7_code 39 = .ok (.if_icmp .ne 7, 3) := by decide +kernel
theorem d_TS_run_42 : decode prog_1_method_7_code 42 = .ok (.aload_n 0, 1) := by decide +kernel
theorem d_TS_run_43 : decode prog_1_method_7_code 43 = .ok (.invokevirtual 118, 3) := by decide +kernel
theorem d_TS_run_46 : decode prog_1_method_7_code 46 = .ok (.iload 4, 2) := by decide +kernel
theorem d_TS_run_48 : decode prog_1_method_7_code 48 = .ok (.ireturn, 1) := by decide +kernel
theorem fl_TS_67 : zw_FL R_TS 67 5 3 := ⟨R_Plan, T_Plan, 8, rfl, by decide, ly_Plan, Or.inr ⟨"TileShares", (zw_in (List.mem_of_getElem? (i := 130) (by decide +kernel)) (by decide +kernel))⟩⟩
theorem fl_TS_70 : zw_FL R_TS 70 5 4 := ⟨R_Plan, T_Plan, 8, rfl, by decide, ly_Plan, Or.inr ⟨"TileShares", (zw_in (List.mem_of_getElem? (i := 134) (by decide +kernel)) (by decide +kernel))⟩⟩
theorem fl_TS_73 : zw_FL R_TS 73 5 5 := ⟨R_Plan, T_Plan, 8, rfl, by decide, ly_Plan, Or.inr ⟨"TileShares", (zw_in (List.mem_of_getElem? (i := 136) (by decide +kernel)) (by decide +kernel))⟩⟩
theorem fl_TS_77 : zw_FL R_TS 77 4 0 := ⟨R_Needs, T_Needs, 4, rfl, by decide, ly_Needs, Or.inr ⟨"TileShares", (zw_in (List.mem_of_getElem? (i := 74) (by decide +kernel)) (by decide +kernel))⟩⟩
theorem fl_TS_131 : zw_FL R_TS 131 0 7 := ⟨R_Course, T_Course, 15, rfl, by decide, ly_Course, Or.inr ⟨"TileShares", (zw_in (List.mem_of_getElem? (i := 218) (by decide +kernel)) (by decide +kernel))⟩⟩
theorem fl_TS_134 : zw_FL R_TS 134 0 5 := ⟨R_Course, T_Course, 15, rfl, by decide, ly_Course, Or.inr ⟨"TileShares", (zw_in (List.mem_of_getElem? (i := 214) (by decide +kernel)) (by decide +kernel))⟩⟩
theorem fl_TS_137 : zw_FL R_TS 137 0 6 := ⟨R_Course, T_Course, 15, rfl, by decide, ly_Course, Or.inr ⟨"TileShares", (zw_in (List.mem_of_getElem? (i := 216) (by decide +kernel)) (by decide +kernel))⟩⟩
theorem fp_TS_109 : zw_FP R_TS 109 5 7 (.int) false := ⟨R_Plan, T_Plan, 8, ty_Plan, rfl, by decide, ly_Plan, ty_Plan_ok, rfl, nm_Plan, rfl, Or.inr ⟨rfl, "TileShares", (zw_in (List.mem_of_getElem? (i := 143) (by decide +kernel)) (by decide +kernel))⟩⟩
theorem mv_TS_39 : zw_MV R_TS 39 Y_TS_isShare R_TS 1 := ⟨Or.inl (zw_in (List.mem_of_getElem? (i := 318) (by decide +kernel)) (by decide +kernel)), (zw_in (List.mem_of_getElem? (i := 320) (by decide +kernel)) (by decide +kernel)), (zw_in (List.mem_of_getElem? (i := 1) (by decide +kernel)) (by decide +kernel)), (zw_in (List.mem_of_getElem? (i := 321) (by decide +kernel)) (by decide +kernel)), (zw_in (List.mem_of_getElem? (i := 25) (by decide +kernel)) (by decide +kernel)), by decide +kernel, by decide +kernel⟩
theorem mv_TS_82 : zw_MS R_TS 82 Y_TS_isStep 1 := ⟨Or.inl (zw_in (List.mem_of_getElem? (i := 418) (by decide +kernel)) (by decide +kernel)), (zw_in (List.mem_of_getElem? (i := 419) (by decide +kernel)) (by decide +kernel)), (zw_in (List.mem_of_getElem? (i := 420) (by decide +kernel)) (by decide +kernel)), (zw_in (List.mem_of_getElem? (i := 25) (by decide +kernel)) (by decide +kernel)), by decide +kernel, by decide +kernel⟩
theorem mv_TS_92 : zw_MV R_TS 92 Y_Needs_add R_Needs 4 := ⟨Or.inl (zw_in (List.mem_of_getElem? (i := 438) (by decide +kernel)) (by decide +kernel)), (zw_in (List.mem_of_getElem? (i := 439) (by decide +kernel)) (by decide +kernel)), (zw_in (List.mem_of_getElem? (i := 440) (by decide +kernel)) (by decide +kernel)), (zw_in (List.mem_of_getElem? (i := 441) (by decide +kernel)) (by decide +kernel)), (zw_in (List.mem_of_getElem? (i := 28) (by decide +kernel)) (by decide +kernel)), by decide +kernel, by decide +kernel⟩
theorem mv_TS_108 : zw_MV R_TS 108 Y_Failings_add R_Failings 4 := ⟨Or.inl (zw_in (List.mem_of_getElem? (i := 458) (by decide +kernel)) (by decide +kernel)), (zw_in (List.mem_of_getElem? (i := 459) (by decide +kernel)) (by decide +kernel)), (zw_in (List.mem_of_getElem? (i := 460) (by decide +kernel)) (by decide +kernel)), (zw_in (List.mem_of_getElem? (i := 461) (by decide +kernel)) (by decide +kernel)), (zw_in (List.mem_of_getElem? (i := 29) (by decide +kernel)) (by decide +kernel)), by decide +kernel, by decide +kernel⟩
theorem mv_TS_114 : zw_MV R_TS 114 Y_Course_go R_Course 2 := ⟨Or.inl (zw_in (List.mem_of_getElem? (i := 477) (by decide +kernel)) (by decide +kernel)), (zw_in (List.mem_of_getElem? (i := 478) (by decide +kernel)) (by decide +kernel)), (zw_in (List.mem_of_getElem? (i := 479) (by decide +kernel)) (by decide +kernel)), (zw_in (List.mem_of_getElem? (i := 480) (by decide +kernel)) (by decide +kernel)), (zw_in (List.mem_of_getElem? (i := 30) (by decide +kernel)) (by decide +kernel)), by decide +kernel, by decide +kernel⟩
theorem mv_TS_118 : zw_MV R_TS 118 Y_TS_putValues R_TS 0 := ⟨Or.inl (zw_in (List.mem_of_getElem? (i := 557) (by decide +kernel)) (by decide +kernel)), (zw_in (List.mem_of_getElem? (i := 559) (by decide +kernel)) (by decide +kernel)), (zw_in (List.mem_of_getElem? (i := 12) (by decide +kernel)) (by decide +kernel)), (zw_in (List.mem_of_getElem? (i := 560) (by decide +kernel)) (by decide +kernel)), (zw_in (List.mem_of_getElem? (i := 25) (by decide +kernel)) (by decide +kernel)), by decide +kernel, by decide +kernel⟩
theorem xt_121_123 : zx_T "java/lang/IllegalStateException" 121 123 125 "the share has no value" := ⟨by decide +kernel, by decide +kernel, (zw_in (List.mem_of_getElem? (i := 570) (by decide +kernel)) (by decide +kernel)), (zw_in (List.mem_of_getElem? (i := 40) (by decide +kernel)) (by decide +kernel)), (zw_in (List.mem_of_getElem? (i := 571) (by decide +kernel)) (by decide +kernel)), by decide +kernel⟩
theorem xt_43_129 : zx_T "java/lang/IndexOutOfBoundsException" 43 129 47 "there is no such place" := ⟨by decide +kernel, by decide +kernel, (zw_in (List.mem_of_getElem? (i := 325) (by decide +kernel)) (by decide +kernel)), (zw_in (List.mem_of_getElem? (i := 37) (by decide +kernel)) (by decide +kernel)), (zw_in (List.mem_of_getElem? (i := 326) (by decide +kernel)) (by decide +kernel)), by decide +kernel⟩
theorem xt_43_45 : zx_T "java/lang/IndexOutOfBoundsException" 43 45 47 "there is no such share" := ⟨by decide +kernel, by decide +kernel, (zw_in (List.mem_of_getElem? (i := 325) (by decide +kernel)) (by decide +kernel)), (zw_in (List.mem_of_getElem? (i := 37) (by decide +kernel)) (by decide +kernel)), (zw_in (List.mem_of_getElem? (i := 326) (by decide +kernel)) (by decide +kernel)), by decide +kernel⟩
theorem xt_58_112 : zx_T "java/lang/IllegalArgumentException" 58 112 62 "workers" := ⟨by decide +kernel, by decide +kernel, (zw_in (List.mem_of_getElem? (i := 394) (by decide +kernel)) (by decide +kernel)), (zw_in (List.mem_of_getElem? (i := 38) (by decide +kernel)) (by decide +kernel)), (zw_in (List.mem_of_getElem? (i := 395) (by decide +kernel)) (by decide +kernel)), by decide +kernel⟩
theorem xt_58_60 : zx_T "java/lang/IllegalArgumentException" 58 60 62 "steps or cells" := ⟨by decide +kernel, by decide +kernel, (zw_in (List.mem_of_getElem? (i := 394) (by decide +kernel)) (by decide +kernel)), (zw_in (List.mem_of_getElem? (i := 38) (by decide +kernel)) (by decide +kernel)), (zw_in (List.mem_of_getElem? (i := 395) (by decide +kernel)) (by decide +kernel)), by decide +kernel⟩
theorem xt_58_85 : zx_T "java/lang/IllegalArgumentException" 58 85 62 "s, m, or the share itself" := ⟨by decide +kernel, by decide +kernel, (zw_in (List.mem_of_getElem? (i := 394) (by decide +kernel)) (by decide +kernel)), (zw_in (List.mem_of_getElem? (i := 38) (by decide +kernel)) (by decide +kernel)), (zw_in (List.mem_of_getElem? (i := 395) (by decide +kernel)) (by decide +kernel)), by decide +kernel⟩
theorem xt_58_96 : zx_T "java/lang/IllegalArgumentException" 58 96 62 "worker, s or times" := ⟨by decide +kernel, by decide +kernel, (zw_in (List.mem_of_getElem? (i := 394) (by decide +kernel)) (by decide +kernel)), (zw_in (List.mem_of_getElem? (i := 38) (by decide +kernel)) (by decide +kernel)), (zw_in (List.mem_of_getElem? (i := 395) (by decide +kernel)) (by decide +kernel)), by decide +kernel⟩
theorem xt_87_106 : zx_T "java/lang/UnsupportedOperationException" 87 106 91 "there are all failings" := ⟨by decide +kernel, by decide +kernel, (zw_in (List.mem_of_getElem? (i := 422) (by decide +kernel)) (by decide +kernel)), (zw_in (List.mem_of_getElem? (i := 39) (by decide +kernel)) (by decide +kernel)), (zw_in (List.mem_of_getElem? (i := 423) (by decide +kernel)) (by decide +kernel)), by decide +kernel⟩
theorem xt_87_89 : zx_T "java/lang/UnsupportedOperationException" 87 89 91 "the share has all its needs" := ⟨by decide +kernel, by decide +kernel, (zw_in (List.mem_of_getElem? (i := 422) (by decide +kernel)) (by decide +kernel)), (zw_in (List.mem_of_getElem? (i := 39) (by decide +kernel)) (by decide +kernel)), (zw_in (List.mem_of_getElem? (i := 423) (by decide +kernel)) (by decide +kernel)), by decide +kernel⟩
set_option maxHeartbeats 4000000 in
set_option maxRecDepth 100000 in
theorem c_TS_share {l : Launch} (hTr : l.stackTraces = false) {D : va_G} {cA : Nat → ClassId} {ad : Nat → Nat} {sh : zw_Sh} {n : Nat} (hn : n ≤ 16) (hs : ∀ (k : Nat) (q : zw_Sp), shX n k = some q → sh k = some q) {b : Nat} (z : Nat) (hA : ∀ q, zw_A ad sh z q → b ≤ q) (mi : zw_I) (ml : zw_L) (x : Int32) (st : Int32) (ce : Int32) (t : Int64) (h1 : ∀ x : Int32, ¬ p_isShare mi x = 0 → vp_in x n) :
    zx_M l D cA Y_TS_share 6 b ad sh z [.ref (ad 0), .int x, .int st, .int ce, .long t] mi ml (p_share mi ml x st ce t) := by
  refine zx_enter (own := R_TS) (by decide) rfl (Nat.le_of_ble_eq_true rfl) ?_
  intro p e s m below meth c X hr hlocks hB Zx Zz hno ls hl
  have X : zw_C D cA R_TS prog_1_method_2_code 6 p m c s := X
  have hr : meth.sig.returnType = (some FieldType.int) := hr
  have hx := X.1
  have hb := X.2.1
  have hl : lv_has ls 6 [(0, .ref (ad 0)), (1, .int x), (2, .int st), (3, .int ce), (4, .long t)] := hl
  unfold p_share
  refine lv_aload_n hx hb d_TS_share_0 rfl (lv_at hl 0 rfl) ?_
  refine lv_iload_n hx hb d_TS_share_1 rfl (lv_at hl 1 rfl) ?_
  refine zw_callVr X hB mv_TS_39 0 (hs 0 _ rfl) rfl (c_TS_isShare hn hs z mi ml x) rfl hl.1 ⟨Nat.le_of_ble_eq_true rfl, Nat.le_of_ble_eq_true rfl⟩ rfl (Nat.le_of_ble_eq_true rfl) ⟨Nat.le_of_ble_eq_true rfl, Nat.le_of_ble_eq_true rfl⟩ d_TS_share_2 (fun H locs hB => ?_)
  refine lv_if_ne (tgt := 18) hx hb d_TS_share_5 (by decide) (fun c_5 => ?_) (fun c_5 => ?_)
  · rw [if_neg c_5]
    refine lv_iload_n hx hb d_TS_share_18 rfl (lv_at hl 2 rfl) ?_
    refine lv_iconst (v := 1) hx hb d_TS_share_19 (by decide) ?_
    refine lv_bipush (v := 20) hx hb d_TS_share_20 (by decide) ?_
    refine zw_callSr X hB mv_TS_50 (c_TS_isWithin hn hs z mi ml st 1 20) rfl hl.1 ⟨Nat.le_of_ble_eq_true rfl, Nat.le_of_ble_eq_true rfl⟩ rfl (Nat.le_of_ble_eq_true rfl) ⟨Nat.le_of_ble_eq_true rfl, Nat.le_of_ble_eq_true rfl⟩ d_TS_share_22 (fun H locs hB => ?_)
    refine lv_if_eq (tgt := 43) hx hb d_TS_share_25 (by decide) (fun c_25 => ?_) (fun c_25 => ?_)
    · rw [if_pos c_25]
      exact zx_throw X hTr Zx Zz hA hB hno hlocks hl.1 xt_58_60 ⟨Nat.le_of_ble_eq_true rfl, Nat.le_of_ble_eq_true rfl, Nat.le_of_ble_eq_true rfl, Nat.le_of_ble_eq_true rfl⟩ rfl rfl rfl rfl rfl d_TS_share_43 d_TS_share_46 d_TS_share_47 d_TS_share_49 d_TS_share_52
    · rw [if_neg c_25]
      refine lv_iload_n hx hb d_TS_share_28 rfl (lv_at hl 3 rfl) ?_
      refine lv_iconst (v := 1) hx hb d_TS_share_29 (by decide) ?_
      refine lv_aload_n hx hb d_TS_share_30 rfl (lv_at hl 0 rfl) ?_
      refine zw_getR X hB fl_TS_18 0 (hs 0 _ rfl) rfl d_TS_share_31 ?_
      refine zw_getI X hB fl_TS_54 1 (hs 1 _ rfl) rfl d_TS_share_34 ?_
      refine zw_callSr X hB mv_TS_50 (c_TS_isWithin hn hs z mi ml ce 1 (mi 1 1)) rfl hl.1 ⟨Nat.le_of_ble_eq_true rfl, Nat.le_of_ble_eq_true rfl⟩ rfl (Nat.le_of_ble_eq_true rfl) ⟨Nat.le_of_ble_eq_true rfl, Nat.le_of_ble_eq_true rfl⟩ d_TS_share_37 (fun H locs hB => ?_)
      refine lv_if_ne (tgt := 53) hx hb d_TS_share_40 (by decide) (fun c_40 => ?_) (fun c_40 => ?_)
      · rw [if_neg c_40]
        refine lv_aload_n hx hb d_TS_share_53 rfl (lv_at hl 0 rfl) ?_
        refine zw_getR X hB fl_TS_18 0 (hs 0 _ rfl) rfl d_TS_share_54 ?_
        refine zw_getR X hB fl_TS_63 1 (hs 1 _ rfl) rfl d_TS_share_57 ?_
        refine lv_iload_n hx hb d_TS_share_60 rfl (lv_at hl 1 rfl) ?_
        refine lv_iload_n hx hb d_TS_share_61 rfl (lv_at hl 2 rfl) ?_
        refine zw_iast X hB 7 (hs 7 _ rfl) (h1 _ c_5) d_TS_share_62 (fun H locs hB => ?_)
        obtain ⟨mi_1, emi_1⟩ : ∃ y, y = zw_up mi 7 x.toNatClampNeg st := ⟨_, rfl⟩
        rw [← emi_1] at hB
        refine lv_aload_n hx hb d_TS_share_63 rfl (lv_at hl 0 rfl) ?_
        refine zw_getR X hB fl_TS_18 0 (hs 0 _ rfl) rfl d_TS_share_64 ?_
        refine zw_getR X hB fl_TS_67 1 (hs 1 _ rfl) rfl d_TS_share_67 ?_
        refine lv_iload_n hx hb d_TS_share_70 rfl (lv_at hl 1 rfl) ?_
        refine lv_iload_n hx hb d_TS_share_71 rfl (lv_at hl 3 rfl) ?_
        refine zw_iast X hB 8 (hs 8 _ rfl) (h1 _ c_5) d_TS_share_72 (fun H locs hB => ?_)
        obtain ⟨mi_2, emi_2⟩ : ∃ y, y = zw_up mi_1 8 x.toNatClampNeg ce := ⟨_, rfl⟩
        rw [← emi_2] at hB
        refine lv_aload_n hx hb d_TS_share_73 rfl (lv_at hl 0 rfl) ?_
        refine zw_getR X hB fl_TS_18 0 (hs 0 _ rfl) rfl d_TS_share_74 ?_
        refine zw_getR X hB fl_TS_70 1 (hs 1 _ rfl) rfl d_TS_share_77 ?_
        refine lv_iload_n hx hb d_TS_share_80 rfl (lv_at hl 1 rfl) ?_
        refine lv_lload hx hb d_TS_share_81 (lv_at hl 4 rfl) ?_
        refine zw_last X hB 9 (hs 9 _ rfl) (h1 _ c_5) d_TS_share_83 (fun H locs hB => ?_)
        obtain ⟨ml_3, eml_3⟩ : ∃ y, y = zw_up ml 9 x.toNatClampNeg t := ⟨_, rfl⟩
        rw [← eml_3] at hB
        refine lv_aload_n hx hb d_TS_share_84 rfl (lv_at hl 0 rfl) ?_
        refine zw_getR X hB fl_TS_18 0 (hs 0 _ rfl) rfl d_TS_share_85 ?_
        refine zw_getR X hB fl_TS_73 1 (hs 1 _ rfl) rfl d_TS_share_88 ?_
        refine zw_getR X hB fl_TS_77 2 (hs 2 _ rfl) rfl d_TS_share_91 ?_
        refine lv_iload_n hx hb d_TS_share_94 rfl (lv_at hl 1 rfl) ?_
        refine zw_iald X hB 10 (hs 10 _ rfl) (h1 _ c_5) d_TS_share_95 ?_
        exact zx_ret (by decide) (by decide) (zc_iret X hr hlocks hB (by subst eml_3; subst emi_2; subst emi_1; rfl) (by subst eml_3; subst emi_2; subst emi_1; rfl) (by subst eml_3; subst emi_2; subst emi_1; rfl) d_TS_share_96)
      · rw [if_pos c_40]
        exact zx_throw X hTr Zx Zz hA hB hno hlocks hl.1 xt_58_60 ⟨Nat.le_of_ble_eq_true rfl, Nat.le_of_ble_eq_true rfl, Nat.le_of_ble_eq_true rfl, Nat.le_of_ble_eq_true rfl⟩ rfl rfl rfl rfl rfl d_TS_share_43 d_TS_share_46 d_TS_share_47 d_TS_share_49 d_TS_share_52
  · rw [if_pos c_5]
    exact zx_throw X hTr Zx Zz hA hB hno hlocks hl.1 xt_43_45 ⟨Nat.le_of_ble_eq_true rfl, Nat.le_of_ble_eq_true rfl, Nat.le_of_ble_eq_true rfl, Nat.le_of_ble_eq_true rfl⟩ rfl rfl rfl rfl rfl d_TS_share_8 d_TS_share_11 d_TS_share_12 d_TS_share_14 d_TS_share_17

set_option maxHeartbeats 4000000 in
set_option maxRecDepth 100000 in
theorem c_TS_need {l : Launch} (hTr : l.stackTraces = false) {D : va_G} {cA : Nat → ClassId} {ad : Nat → Nat} {sh : zw_Sh} {n : Nat} (hn : n ≤ 16) (hs : ∀ (k : Nat) (q : zw_Sp), shX n k = some q → sh k = some q) {b : Nat} (z : Nat) (hA : ∀ q, zw_A ad sh z q → b ≤ q) (mi : zw_I) (ml : zw_L) (x : Int32) (s0 : Int32) (o : Int32) (m0 : Int32) (h1 : ∀ x : Int32, ¬ p_isShare mi x = 0 → vp_in x n) (h2 : ¬ p_isShare mi x = 0 → mi 10 x.toNatClampNeg < 6 → vp_in (mi 10 x.toNatClampNeg) 6) :
    zx_M l D cA Y_TS_need 6 b ad sh z [.ref (ad 0), .int x, .int s0, .int o, .int m0] mi ml (p_need mi ml x s0 o m0) := by
  refine zx_enter (own := R_TS) (by decide) rfl (Nat.le_of_ble_eq_true rfl) ?_
  intro p e s m below meth c X hr hlocks hB Zx Zz hno ls hl
  have X : zw_C D cA R_TS prog_1_method_3_code 5 p m c s := X
  have hr : meth.sig.returnType = (some FieldType.int) := hr
  have hx := X.1
  have hb := X.2.1
  have hl : lv_has ls 5 [(0, .ref (ad 0)), (1, .int x), (2, .int s0), (3, .int o), (4, .int m0)] := hl
  unfold p_need
  refine lv_aload_n hx hb d_TS_need_0 rfl (lv_at hl 0 rfl) ?_
  refine lv_iload_n hx hb d_TS_need_1 rfl (lv_at hl 1 rfl) ?_
  refine zw_callVr X hB mv_TS_39 0 (hs 0 _ rfl) rfl (c_TS_isShare hn hs z mi ml x) rfl hl.1 ⟨Nat.le_of_ble_eq_true rfl, Nat.le_of_ble_eq_true rfl⟩ rfl (Nat.le_of_ble_eq_true rfl) ⟨Nat.le_of_ble_eq_true rfl, Nat.le_of_ble_eq_true rfl⟩ d_TS_need_2 (fun H locs hB => ?_)
  refine lv_if_eq (tgt := 16) hx hb d_TS_need_5 (by decide) (fun c_5 => ?_) (fun c_5 => ?_)
  · rw [if_pos c_5]
    exact zx_throw X hTr Zx Zz hA hB hno hlocks hl.1 xt_43_45 ⟨Nat.le_of_ble_eq_true rfl, Nat.le_of_ble_eq_true rfl, Nat.le_of_ble_eq_true rfl, Nat.le_of_ble_eq_true rfl⟩ rfl rfl rfl rfl rfl d_TS_need_16 d_TS_need_19 d_TS_need_20 d_TS_need_22 d_TS_need_25
  · rw [if_neg c_5]
    refine lv_aload_n hx hb d_TS_need_8 rfl (lv_at hl 0 rfl) ?_
    refine lv_iload_n hx hb d_TS_need_9 rfl (lv_at hl 3 rfl) ?_
    refine zw_callVr X hB mv_TS_39 0 (hs 0 _ rfl) rfl (c_TS_isShare hn hs z mi ml o) rfl hl.1 ⟨Nat.le_of_ble_eq_true rfl, Nat.le_of_ble_eq_true rfl⟩ rfl (Nat.le_of_ble_eq_true rfl) ⟨Nat.le_of_ble_eq_true rfl, Nat.le_of_ble_eq_true rfl⟩ d_TS_need_10 (fun H locs hB => ?_)
    refine lv_if_ne (tgt := 26) hx hb d_TS_need_13 (by decide) (fun c_13 => ?_) (fun c_13 => ?_)
    · rw [if_neg c_13]
      refine lv_iload_n hx hb d_TS_need_26 rfl (lv_at hl 2 rfl) ?_
      refine zw_callSr X hB mv_TS_82 (c_TS_isStep hn hs z mi ml s0) rfl hl.1 ⟨Nat.le_of_ble_eq_true rfl, Nat.le_of_ble_eq_true rfl⟩ rfl (Nat.le_of_ble_eq_true rfl) ⟨Nat.le_of_ble_eq_true rfl, Nat.le_of_ble_eq_true rfl⟩ d_TS_need_27 (fun H locs hB => ?_)
      refine lv_if_eq (tgt := 49) hx hb d_TS_need_30 (by decide) (fun c_30 => ?_) (fun c_30 => ?_)
      · rw [if_pos c_30]
        exact zx_throw X hTr Zx Zz hA hB hno hlocks hl.1 xt_58_85 ⟨Nat.le_of_ble_eq_true rfl, Nat.le_of_ble_eq_true rfl, Nat.le_of_ble_eq_true rfl, Nat.le_of_ble_eq_true rfl⟩ rfl rfl rfl rfl rfl d_TS_need_49 d_TS_need_52 d_TS_need_53 d_TS_need_55 d_TS_need_58
      · rw [if_neg c_30]
        refine lv_iload hx hb d_TS_need_33 (lv_at hl 4 rfl) ?_
        refine lv_iconst (v := 1) hx hb d_TS_need_35 (by decide) ?_
        refine lv_bipush (v := 20) hx hb d_TS_need_36 (by decide) ?_
        refine zw_callSr X hB mv_TS_50 (c_TS_isWithin hn hs z mi ml m0 1 20) rfl hl.1 ⟨Nat.le_of_ble_eq_true rfl, Nat.le_of_ble_eq_true rfl⟩ rfl (Nat.le_of_ble_eq_true rfl) ⟨Nat.le_of_ble_eq_true rfl, Nat.le_of_ble_eq_true rfl⟩ d_TS_need_38 (fun H locs hB => ?_)
        refine lv_if_eq (tgt := 49) hx hb d_TS_need_41 (by decide) (fun c_41 => ?_) (fun c_41 => ?_)
        · rw [if_pos c_41]
          exact zx_throw X hTr Zx Zz hA hB hno hlocks hl.1 xt_58_85 ⟨Nat.le_of_ble_eq_true rfl, Nat.le_of_ble_eq_true rfl, Nat.le_of_ble_eq_true rfl, Nat.le_of_ble_eq_true rfl⟩ rfl rfl rfl rfl rfl d_TS_need_49 d_TS_need_52 d_TS_need_53 d_TS_need_55 d_TS_need_58
        · rw [if_neg c_41]
          refine lv_iload_n hx hb d_TS_need_44 rfl (lv_at hl 3 rfl) ?_
          refine lv_iload_n hx hb d_TS_need_45 rfl (lv_at hl 1 rfl) ?_
          refine lv_icmp_ne (tgt := 59) hx hb d_TS_need_46 (by decide) (fun c_46 => ?_) (fun c_46 => ?_)
          · rw [if_neg c_46]
            refine lv_aload_n hx hb d_TS_need_59 rfl (lv_at hl 0 rfl) ?_
            refine zw_getR X hB fl_TS_18 0 (hs 0 _ rfl) rfl d_TS_need_60 ?_
            refine zw_getR X hB fl_TS_73 1 (hs 1 _ rfl) rfl d_TS_need_63 ?_
            refine zw_getR X hB fl_TS_77 2 (hs 2 _ rfl) rfl d_TS_need_66 ?_
            refine lv_iload_n hx hb d_TS_need_69 rfl (lv_at hl 1 rfl) ?_
            refine zw_iald X hB 10 (hs 10 _ rfl) (h1 _ c_5) d_TS_need_70 ?_
            refine lv_bipush (v := 6) hx hb d_TS_need_71 (by decide) ?_
            refine lv_icmp_lt (tgt := 86) hx hb d_TS_need_73 (by decide) (fun c_73 => ?_) (fun c_73 => ?_)
            · rw [if_pos c_73]
              refine lv_aload_n hx hb d_TS_need_86 rfl (lv_at hl 0 rfl) ?_
              refine zw_getR X hB fl_TS_18 0 (hs 0 _ rfl) rfl d_TS_need_87 ?_
              refine zw_getR X hB fl_TS_73 1 (hs 1 _ rfl) rfl d_TS_need_90 ?_
              refine lv_iload_n hx hb d_TS_need_93 rfl (lv_at hl 1 rfl) ?_
              refine lv_iload_n hx hb d_TS_need_94 rfl (lv_at hl 2 rfl) ?_
              refine lv_iload_n hx hb d_TS_need_95 rfl (lv_at hl 3 rfl) ?_
              refine lv_iload hx hb d_TS_need_96 (lv_at hl 4 rfl) ?_
              refine zw_callVr X hB mv_TS_92 2 (hs 2 _ rfl) rfl (c_Needs_add hn hs z mi ml x s0 o m0 (h1 _ c_5) (h2 c_5 c_73)) rfl hl.1 ⟨Nat.le_of_ble_eq_true rfl, Nat.le_of_ble_eq_true rfl⟩ rfl (Nat.le_of_ble_eq_true rfl) ⟨Nat.le_of_ble_eq_true rfl, Nat.le_of_ble_eq_true rfl⟩ d_TS_need_98 (fun H locs hB => ?_)
              obtain ⟨mi_1, emi_1⟩ : ∃ y, y = p_nadd x s0 o m0 mi := ⟨_, rfl⟩
              rw [← emi_1] at hB
              exact zx_ret (by decide) (by decide) (zc_iret X hr hlocks hB (by subst emi_1; rfl) (by subst emi_1; rfl) (by subst emi_1; rfl) d_TS_need_101)
            · rw [if_neg c_73]
              exact zx_throw X hTr Zx Zz hA hB hno hlocks hl.1 xt_87_89 ⟨Nat.le_of_ble_eq_true rfl, Nat.le_of_ble_eq_true rfl, Nat.le_of_ble_eq_true rfl, Nat.le_of_ble_eq_true rfl⟩ rfl rfl rfl rfl rfl d_TS_need_76 d_TS_need_79 d_TS_need_80 d_TS_need_82 d_TS_need_85
          · rw [if_pos c_46]
            exact zx_throw X hTr Zx Zz hA hB hno hlocks hl.1 xt_58_85 ⟨Nat.le_of_ble_eq_true rfl, Nat.le_of_ble_eq_true rfl, Nat.le_of_ble_eq_true rfl, Nat.le_of_ble_eq_true rfl⟩ rfl rfl rfl rfl rfl d_TS_need_49 d_TS_need_52 d_TS_need_53 d_TS_need_55 d_TS_need_58
    · rw [if_pos c_13]
      exact zx_throw X hTr Zx Zz hA hB hno hlocks hl.1 xt_43_45 ⟨Nat.le_of_ble_eq_true rfl, Nat.le_of_ble_eq_true rfl, Nat.le_of_ble_eq_true rfl, Nat.le_of_ble_eq_true rfl⟩ rfl rfl rfl rfl rfl d_TS_need_16 d_TS_need_19 d_TS_need_20 d_TS_need_22 d_TS_need_25

set_option maxHeartbeats 4000000 in
set_option maxRecDepth 100000 in
theorem c_TS_free {l : Launch} (hTr : l.stackTraces = false) {D : va_G} {cA : Nat → ClassId} {ad : Nat → Nat} {sh : zw_Sh} {n : Nat} (hn : n ≤ 16) (hs : ∀ (k : Nat) (q : zw_Sp), shX n k = some q → sh k = some q) {b : Nat} (z : Nat) (hA : ∀ q, zw_A ad sh z q → b ≤ q) (mi : zw_I) (ml : zw_L) (x : Int32) (h1 : ∀ x : Int32, ¬ p_isShare mi x = 0 → vp_in x n) :
    zx_M l D cA Y_TS_free 6 b ad sh z [.ref (ad 0), .int x] mi ml (p_free mi ml x) := by
  refine zx_enter (own := R_TS) (by decide) rfl (Nat.le_of_ble_eq_true rfl) ?_
  intro p e s m below meth c X hr hlocks hB Zx Zz hno ls hl
  have X : zw_C D cA R_TS prog_1_method_4_code 3 p m c s := X
  have hr : meth.sig.returnType = (some FieldType.int) := hr
  have hx := X.1
  have hb := X.2.1
  have hl : lv_has ls 3 [(0, .ref (ad 0)), (1, .int x)] := hl
  unfold p_free
  refine lv_aload_n hx hb d_TS_free_0 rfl (lv_at hl 0 rfl) ?_
  refine lv_iload_n hx hb d_TS_free_1 rfl (lv_at hl 1 rfl) ?_
  refine zw_callVr X hB mv_TS_39 0 (hs 0 _ rfl) rfl (c_TS_isShare hn hs z mi ml x) rfl hl.1 ⟨Nat.le_of_ble_eq_true rfl, Nat.le_of_ble_eq_true rfl⟩ rfl (Nat.le_of_ble_eq_true rfl) ⟨Nat.le_of_ble_eq_true rfl, Nat.le_of_ble_eq_true rfl⟩ d_TS_free_2 (fun H locs hB => ?_)
  refine lv_if_ne (tgt := 18) hx hb d_TS_free_5 (by decide) (fun c_5 => ?_) (fun c_5 => ?_)
  · rw [if_neg c_5]
    refine lv_aload_n hx hb d_TS_free_18 rfl (lv_at hl 0 rfl) ?_
    refine zw_getR X hB fl_TS_18 0 (hs 0 _ rfl) rfl d_TS_free_19 ?_
    refine zw_getR X hB fl_TS_73 1 (hs 1 _ rfl) rfl d_TS_free_22 ?_
    refine zw_getR X hB fl_TS_77 2 (hs 2 _ rfl) rfl d_TS_free_25 ?_
    refine lv_iload_n hx hb d_TS_free_28 rfl (lv_at hl 1 rfl) ?_
    refine zw_iald X hB 10 (hs 10 _ rfl) (h1 _ c_5) d_TS_free_29 ?_
    refine lv_istore_n (lv' := [(2, .int (mi 10 x.toNatClampNeg)), (0, .ref (ad 0)), (1, .int x)]) hx hb d_TS_free_30 rfl hl (by decide) rfl (fun ls hl => ?_)
    refine lv_aload_n hx hb d_TS_free_31 rfl (lv_at hl 1 rfl) ?_
    refine zw_getR X hB fl_TS_18 0 (hs 0 _ rfl) rfl d_TS_free_32 ?_
    refine zw_getR X hB fl_TS_73 1 (hs 1 _ rfl) rfl d_TS_free_35 ?_
    refine zw_getR X hB fl_TS_77 2 (hs 2 _ rfl) rfl d_TS_free_38 ?_
    refine lv_iload_n hx hb d_TS_free_41 rfl (lv_at hl 2 rfl) ?_
    refine lv_iconst (v := 0) hx hb d_TS_free_42 (by decide) ?_
    refine zw_iast X hB 10 (hs 10 _ rfl) (h1 _ c_5) d_TS_free_43 (fun H locs hB => ?_)
    obtain ⟨mi_1, emi_1⟩ : ∃ y, y = zw_up mi 10 x.toNatClampNeg 0 := ⟨_, rfl⟩
    rw [← emi_1] at hB
    refine lv_iload_n hx hb d_TS_free_44 rfl (lv_at hl 0 rfl) ?_
    exact zx_ret (by decide) (by decide) (zc_iret X hr hlocks hB (by subst emi_1; rfl) (by subst emi_1; rfl) (by subst emi_1; rfl) d_TS_free_45)
  · rw [if_pos c_5]
    exact zx_throw X hTr Zx Zz hA hB hno hlocks hl.1 xt_43_45 ⟨Nat.le_of_ble_eq_true rfl, Nat.le_of_ble_eq_true rfl, Nat.le_of_ble_eq_true rfl, Nat.le_of_ble_eq_true rfl⟩ rfl rfl rfl rfl rfl d_TS_free_8 d_TS_free_11 d_TS_free_12 d_TS_free_14 d_TS_free_17

set_option maxHeartbeats 4000000 in
set_option maxRecDepth 100000 in
theorem c_TS_failing {l : Launch} (hTr : l.stackTraces = false) {D : va_G} {cA : Nat → ClassId} {ad : Nat → Nat} {sh : zw_Sh} {n : Nat} (hn : n ≤ 16) (hs : ∀ (k : Nat) (q : zw_Sp), shX n k = some q → sh k = some q) {b : Nat} (z : Nat) (hA : ∀ q, zw_A ad sh z q → b ≤ q) (mi : zw_I) (ml : zw_L) (w : Int32) (x : Int32) (s0 : Int32) (t : Int32) (h2 : mi 3 5 < 8 → vp_in (mi 3 5) 8) :
    zx_M l D cA Y_TS_failing 6 b ad sh z [.ref (ad 0), .int w, .int x, .int s0, .int t] mi ml (p_failing mi ml w x s0 t) := by
  refine zx_enter (own := R_TS) (by decide) rfl (Nat.le_of_ble_eq_true rfl) ?_
  intro p e s m below meth c X hr hlocks hB Zx Zz hno ls hl
  have X : zw_C D cA R_TS prog_1_method_5_code 5 p m c s := X
  have hr : meth.sig.returnType = (some FieldType.int) := hr
  have hx := X.1
  have hb := X.2.1
  have hl : lv_has ls 5 [(0, .ref (ad 0)), (1, .int w), (2, .int x), (3, .int s0), (4, .int t)] := hl
  unfold p_failing
  refine lv_aload_n hx hb d_TS_failing_0 rfl (lv_at hl 0 rfl) ?_
  refine lv_iload_n hx hb d_TS_failing_1 rfl (lv_at hl 2 rfl) ?_
  refine zw_callVr X hB mv_TS_39 0 (hs 0 _ rfl) rfl (c_TS_isShare hn hs z mi ml x) rfl hl.1 ⟨Nat.le_of_ble_eq_true rfl, Nat.le_of_ble_eq_true rfl⟩ rfl (Nat.le_of_ble_eq_true rfl) ⟨Nat.le_of_ble_eq_true rfl, Nat.le_of_ble_eq_true rfl⟩ d_TS_failing_2 (fun H locs hB => ?_)
  refine lv_if_ne (tgt := 18) hx hb d_TS_failing_5 (by decide) (fun c_5 => ?_) (fun c_5 => ?_)
  · rw [if_neg c_5]
    refine lv_iload_n hx hb d_TS_failing_18 rfl (lv_at hl 1 rfl) ?_
    refine lv_iconst (v := 0) hx hb d_TS_failing_19 (by decide) ?_
    refine lv_bipush (v := 15) hx hb d_TS_failing_20 (by decide) ?_
    refine zw_callSr X hB mv_TS_50 (c_TS_isWithin hn hs z mi ml w 0 15) rfl hl.1 ⟨Nat.le_of_ble_eq_true rfl, Nat.le_of_ble_eq_true rfl⟩ rfl (Nat.le_of_ble_eq_true rfl) ⟨Nat.le_of_ble_eq_true rfl, Nat.le_of_ble_eq_true rfl⟩ d_TS_failing_22 (fun H locs hB => ?_)
    refine lv_if_eq (tgt := 46) hx hb d_TS_failing_25 (by decide) (fun c_25 => ?_) (fun c_25 => ?_)
    · rw [if_pos c_25]
      exact zx_throw X hTr Zx Zz hA hB hno hlocks hl.1 xt_58_96 ⟨Nat.le_of_ble_eq_true rfl, Nat.le_of_ble_eq_true rfl, Nat.le_of_ble_eq_true rfl, Nat.le_of_ble_eq_true rfl⟩ rfl rfl rfl rfl rfl d_TS_failing_46 d_TS_failing_49 d_TS_failing_50 d_TS_failing_52 d_TS_failing_55
    · rw [if_neg c_25]
      refine lv_iload_n hx hb d_TS_failing_28 rfl (lv_at hl 3 rfl) ?_
      refine zw_callSr X hB mv_TS_82 (c_TS_isStep hn hs z mi ml s0) rfl hl.1 ⟨Nat.le_of_ble_eq_true rfl, Nat.le_of_ble_eq_true rfl⟩ rfl (Nat.le_of_ble_eq_true rfl) ⟨Nat.le_of_ble_eq_true rfl, Nat.le_of_ble_eq_true rfl⟩ d_TS_failing_29 (fun H locs hB => ?_)
      refine lv_if_eq (tgt := 46) hx hb d_TS_failing_32 (by decide) (fun c_32 => ?_) (fun c_32 => ?_)
      · rw [if_pos c_32]
        exact zx_throw X hTr Zx Zz hA hB hno hlocks hl.1 xt_58_96 ⟨Nat.le_of_ble_eq_true rfl, Nat.le_of_ble_eq_true rfl, Nat.le_of_ble_eq_true rfl, Nat.le_of_ble_eq_true rfl⟩ rfl rfl rfl rfl rfl d_TS_failing_46 d_TS_failing_49 d_TS_failing_50 d_TS_failing_52 d_TS_failing_55
      · rw [if_neg c_32]
        refine lv_iload hx hb d_TS_failing_35 (lv_at hl 4 rfl) ?_
        refine lv_iconst (v := 1) hx hb d_TS_failing_37 (by decide) ?_
        refine lv_bipush (v := 9) hx hb d_TS_failing_38 (by decide) ?_
        refine zw_callSr X hB mv_TS_50 (c_TS_isWithin hn hs z mi ml t 1 9) rfl hl.1 ⟨Nat.le_of_ble_eq_true rfl, Nat.le_of_ble_eq_true rfl⟩ rfl (Nat.le_of_ble_eq_true rfl) ⟨Nat.le_of_ble_eq_true rfl, Nat.le_of_ble_eq_true rfl⟩ d_TS_failing_40 (fun H locs hB => ?_)
        refine lv_if_ne (tgt := 56) hx hb d_TS_failing_43 (by decide) (fun c_43 => ?_) (fun c_43 => ?_)
        · rw [if_neg c_43]
          refine lv_aload_n hx hb d_TS_failing_56 rfl (lv_at hl 0 rfl) ?_
          refine zw_getR X hB fl_TS_18 0 (hs 0 _ rfl) rfl d_TS_failing_57 ?_
          refine zw_getR X hB fl_TS_98 1 (hs 1 _ rfl) rfl d_TS_failing_60 ?_
          refine zw_getI X hB fl_TS_102 3 (hs 3 _ rfl) rfl d_TS_failing_63 ?_
          refine lv_bipush (v := 8) hx hb d_TS_failing_66 (by decide) ?_
          refine lv_icmp_lt (tgt := 81) hx hb d_TS_failing_68 (by decide) (fun c_68 => ?_) (fun c_68 => ?_)
          · rw [if_pos c_68]
            refine lv_aload_n hx hb d_TS_failing_81 rfl (lv_at hl 0 rfl) ?_
            refine zw_getR X hB fl_TS_18 0 (hs 0 _ rfl) rfl d_TS_failing_82 ?_
            refine zw_getR X hB fl_TS_98 1 (hs 1 _ rfl) rfl d_TS_failing_85 ?_
            refine lv_iload_n hx hb d_TS_failing_88 rfl (lv_at hl 1 rfl) ?_
            refine lv_iload_n hx hb d_TS_failing_89 rfl (lv_at hl 2 rfl) ?_
            refine lv_iload_n hx hb d_TS_failing_90 rfl (lv_at hl 3 rfl) ?_
            refine lv_iload hx hb d_TS_failing_91 (lv_at hl 4 rfl) ?_
            refine zw_callVr X hB mv_TS_108 3 (hs 3 _ rfl) rfl (c_Failings_add hn hs z mi ml w x s0 t (h2 c_68)) rfl hl.1 ⟨Nat.le_of_ble_eq_true rfl, Nat.le_of_ble_eq_true rfl⟩ rfl (Nat.le_of_ble_eq_true rfl) ⟨Nat.le_of_ble_eq_true rfl, Nat.le_of_ble_eq_true rfl⟩ d_TS_failing_93 (fun H locs hB => ?_)
            obtain ⟨mi_1, emi_1⟩ : ∃ y, y = p_fadd w x s0 t mi := ⟨_, rfl⟩
            rw [← emi_1] at hB
            exact zx_ret (by decide) (by decide) (zc_iret X hr hlocks hB (by subst emi_1; rfl) (by subst emi_1; rfl) (by subst emi_1; rfl) d_TS_failing_96)
          · rw [if_neg c_68]
            exact zx_throw X hTr Zx Zz hA hB hno hlocks hl.1 xt_87_106 ⟨Nat.le_of_ble_eq_true rfl, Nat.le_of_ble_eq_true rfl, Nat.le_of_ble_eq_true rfl, Nat.le_of_ble_eq_true rfl⟩ rfl rfl rfl rfl rfl d_TS_failing_71 d_TS_failing_74 d_TS_failing_75 d_TS_failing_77 d_TS_failing_80
        · rw [if_pos c_43]
          exact zx_throw X hTr Zx Zz hA hB hno hlocks hl.1 xt_58_96 ⟨Nat.le_of_ble_eq_true rfl, Nat.le_of_ble_eq_true rfl, Nat.le_of_ble_eq_true rfl, Nat.le_of_ble_eq_true rfl⟩ rfl rfl rfl rfl rfl d_TS_failing_46 d_TS_failing_49 d_TS_failing_50 d_TS_failing_52 d_TS_failing_55
  · rw [if_pos c_5]
    exact zx_throw X hTr Zx Zz hA hB hno hlocks hl.1 xt_43_45 ⟨Nat.le_of_ble_eq_true rfl, Nat.le_of_ble_eq_true rfl, Nat.le_of_ble_eq_true rfl, Nat.le_of_ble_eq_true rfl⟩ rfl rfl rfl rfl rfl d_TS_failing_8 d_TS_failing_11 d_TS_failing_12 d_TS_failing_14 d_TS_failing_17

set_option maxHeartbeats 4000000 in
set_option maxRecDepth 100000 in
theorem c_TS_stop {l : Launch} (hTr : l.stackTraces = false) {D : va_G} {cA : Nat → ClassId} {ad : Nat → Nat} {sh : zw_Sh} {n : Nat} (hn : n ≤ 16) (hs : ∀ (k : Nat) (q : zw_Sp), shX n k = some q → sh k = some q) {b : Nat} (z : Nat) (hA : ∀ q, zw_A ad sh z q → b ≤ q) (mi : zw_I) (ml : zw_L) (x : Int32) :
    zx_M l D cA Y_TS_stop 6 b ad sh z [.ref (ad 0), .int x] mi ml (p_stop mi ml x) := by
  refine zx_enter (own := R_TS) (by decide) rfl (Nat.le_of_ble_eq_true rfl) ?_
  intro p e s m below meth c X hr hlocks hB Zx Zz hno ls hl
  have X : zw_C D cA R_TS prog_1_method_6_code 3 p m c s := X
  have hr : meth.sig.returnType = (some FieldType.int) := hr
  have hx := X.1
  have hb := X.2.1
  have hl : lv_has ls 3 [(0, .ref (ad 0)), (1, .int x)] := hl
  unfold p_stop
  refine lv_iload_n hx hb d_TS_stop_0 rfl (lv_at hl 1 rfl) ?_
  refine lv_iconst (v := (-1)) hx hb d_TS_stop_1 (by decide) ?_
  refine lv_icmp_eq (tgt := 23) hx hb d_TS_stop_2 (by decide) (fun c_2 => ?_) (fun c_2 => ?_)
  · rw [if_pos c_2]
    refine lv_aload_n hx hb d_TS_stop_23 rfl (lv_at hl 0 rfl) ?_
    refine zw_getR X hB fl_TS_18 0 (hs 0 _ rfl) rfl d_TS_stop_24 ?_
    refine zw_getI X hB fl_TS_109 1 (hs 1 _ rfl) rfl d_TS_stop_27 ?_
    refine lv_istore_n (lv' := [(2, .int (mi 1 7)), (0, .ref (ad 0)), (1, .int x)]) hx hb d_TS_stop_30 rfl hl (by decide) rfl (fun ls hl => ?_)
    refine lv_aload_n hx hb d_TS_stop_31 rfl (lv_at hl 1 rfl) ?_
    refine zw_getR X hB fl_TS_18 0 (hs 0 _ rfl) rfl d_TS_stop_32 ?_
    refine lv_iload_n hx hb d_TS_stop_35 rfl (lv_at hl 2 rfl) ?_
    refine zw_putI X hB fp_TS_109 (fun h => by cases h) 1 (hs 1 _ rfl) rfl d_TS_stop_36 (fun H locs hB => ?_)
    obtain ⟨mi_1, emi_1⟩ : ∃ y, y = zw_up mi 1 7 x := ⟨_, rfl⟩
    rw [← emi_1] at hB
    refine lv_iload_n hx hb d_TS_stop_39 rfl (lv_at hl 0 rfl) ?_
    exact zx_ret (by decide) (by decide) (zc_iret X hr hlocks hB (by subst emi_1; rfl) (by subst emi_1; rfl) (by subst emi_1; rfl) d_TS_stop_40)
  · rw [if_neg c_2]
    refine lv_aload_n hx hb d_TS_stop_5 rfl (lv_at hl 0 rfl) ?_
    refine lv_iload_n hx hb d_TS_stop_6 rfl (lv_at hl 1 rfl) ?_
    refine zw_callVr X hB mv_TS_39 0 (hs 0 _ rfl) rfl (c_TS_isShare hn hs z mi ml x) rfl hl.1 ⟨Nat.le_of_ble_eq_true rfl, Nat.le_of_ble_eq_true rfl⟩ rfl (Nat.le_of_ble_eq_true rfl) ⟨Nat.le_of_ble_eq_true rfl, Nat.le_of_ble_eq_true rfl⟩ d_TS_stop_7 (fun H locs hB => ?_)
    refine lv_if_ne (tgt := 23) hx hb d_TS_stop_10 (by decide) (fun c_10 => ?_) (fun c_10 => ?_)
    · rw [if_neg c_10]
      refine lv_aload_n hx hb d_TS_stop_23 rfl (lv_at hl 0 rfl) ?_
      refine zw_getR X hB fl_TS_18 0 (hs 0 _ rfl) rfl d_TS_stop_24 ?_
      refine zw_getI X hB fl_TS_109 1 (hs 1 _ rfl) rfl d_TS_stop_27 ?_
      refine lv_istore_n (lv' := [(2, .int (mi 1 7)), (0, .ref (ad 0)), (1, .int x)]) hx hb d_TS_stop_30 rfl hl (by decide) rfl (fun ls hl => ?_)
      refine lv_aload_n hx hb d_TS_stop_31 rfl (lv_at hl 1 rfl) ?_
      refine zw_getR X hB fl_TS_18 0 (hs 0 _ rfl) rfl d_TS_stop_32 ?_
      refine lv_iload_n hx hb d_TS_stop_35 rfl (lv_at hl 2 rfl) ?_
      refine zw_putI X hB fp_TS_109 (fun h => by cases h) 1 (hs 1 _ rfl) rfl d_TS_stop_36 (fun H locs hB => ?_)
      obtain ⟨mi_2, emi_2⟩ : ∃ y, y = zw_up mi 1 7 x := ⟨_, rfl⟩
      rw [← emi_2] at hB
      refine lv_iload_n hx hb d_TS_stop_39 rfl (lv_at hl 0 rfl) ?_
      exact zx_ret (by decide) (by decide) (zc_iret X hr hlocks hB (by subst emi_2; rfl) (by subst emi_2; rfl) (by subst emi_2; rfl) d_TS_stop_40)
    · rw [if_pos c_10]
      exact zx_throw X hTr Zx Zz hA hB hno hlocks hl.1 xt_43_45 ⟨Nat.le_of_ble_eq_true rfl, Nat.le_of_ble_eq_true rfl, Nat.le_of_ble_eq_true rfl, Nat.le_of_ble_eq_true rfl⟩ rfl rfl rfl rfl rfl d_TS_stop_13 d_TS_stop_16 d_TS_stop_17 d_TS_stop_19 d_TS_stop_22

set_option maxHeartbeats 4000000 in
set_option maxRecDepth 100000 in
theorem c_TS_at {l : Launch} (hTr : l.stackTraces = false) {D : va_G} {cA : Nat → ClassId} {ad : Nat → Nat} {sh : zw_Sh} {n : Nat} (hn : n ≤ 16) (hs : ∀ (k : Nat) (q : zw_Sp), shX n k = some q → sh k = some q) {b : Nat} (z : Nat) (hA : ∀ q, zw_A ad sh z q → b ≤ q) (mi : zw_I) (ml : zw_L) (x : Int32) (h1 : ∀ x : Int32, ¬ p_isShare mi x = 0 → vp_in x n) :
    zx_M l D cA Y_TS_at 6 b ad sh z [.ref (ad 0), .int x] mi ml (p_at mi ml x) := by
  refine zx_enter (own := R_TS) (by decide) rfl (Nat.le_of_ble_eq_true rfl) ?_
  intro p e s m below meth c X hr hlocks hB Zx Zz hno ls hl
  have X : zw_C D cA R_TS prog_1_method_8_code 2 p m c s := X
  have hr : meth.sig.returnType = (some FieldType.long) := hr
  have hx := X.1
  have hb := X.2.1
  have hl : lv_has ls 2 [(0, .ref (ad 0)), (1, .int x)] := hl
  unfold p_at
  refine lv_aload_n hx hb d_TS_at_0 rfl (lv_at hl 0 rfl) ?_
  refine lv_iload_n hx hb d_TS_at_1 rfl (lv_at hl 1 rfl) ?_
  refine zw_callVr X hB mv_TS_39 0 (hs 0 _ rfl) rfl (c_TS_isShare hn hs z mi ml x) rfl hl.1 ⟨Nat.le_of_ble_eq_true rfl, Nat.le_of_ble_eq_true rfl⟩ rfl (Nat.le_of_ble_eq_true rfl) ⟨Nat.le_of_ble_eq_true rfl, Nat.le_of_ble_eq_true rfl⟩ d_TS_at_2 (fun H locs hB => ?_)
  refine lv_if_ne (tgt := 18) hx hb d_TS_at_5 (by decide) (fun c_5 => ?_) (fun c_5 => ?_)
  · rw [if_neg c_5]
    refine lv_aload_n hx hb d_TS_at_18 rfl (lv_at hl 0 rfl) ?_
    refine zw_getR X hB fl_TS_31 0 (hs 0 _ rfl) rfl d_TS_at_19 ?_
    refine lv_iload_n hx hb d_TS_at_22 rfl (lv_at hl 1 rfl) ?_
    refine zw_zald X hB 20 (hs 20 _ rfl) (h1 _ c_5) d_TS_at_23 ?_
    refine lv_if_ne (tgt := 37) hx hb d_TS_at_24 (by decide) (fun c_24 => ?_) (fun c_24 => ?_)
    · rw [if_neg c_24]
      refine lv_aload_n hx hb d_TS_at_37 rfl (lv_at hl 0 rfl) ?_
      refine zw_getR X hB fl_TS_35 0 (hs 0 _ rfl) rfl d_TS_at_38 ?_
      refine lv_iload_n hx hb d_TS_at_41 rfl (lv_at hl 1 rfl) ?_
      refine zw_lald X hB 21 (hs 21 _ rfl) (h1 _ c_5) d_TS_at_42 ?_
      exact zx_ret (by decide) (by decide) (zc_lret X hr hlocks hB (by rfl) (by rfl) (by rfl) d_TS_at_43)
    · rw [if_pos c_24]
      exact zx_throw X hTr Zx Zz hA hB hno hlocks hl.1 xt_121_123 ⟨Nat.le_of_ble_eq_true rfl, Nat.le_of_ble_eq_true rfl, Nat.le_of_ble_eq_true rfl, Nat.le_of_ble_eq_true rfl⟩ rfl rfl rfl rfl rfl d_TS_at_27 d_TS_at_30 d_TS_at_31 d_TS_at_33 d_TS_at_36
  · rw [if_pos c_5]
    exact zx_throw X hTr Zx Zz hA hB hno hlocks hl.1 xt_43_45 ⟨Nat.le_of_ble_eq_true rfl, Nat.le_of_ble_eq_true rfl, Nat.le_of_ble_eq_true rfl, Nat.le_of_ble_eq_true rfl⟩ rfl rfl rfl rfl rfl d_TS_at_8 d_TS_at_11 d_TS_at_12 d_TS_at_14 d_TS_at_17

set_option maxHeartbeats 4000000 in
set_option maxRecDepth 100000 in
theorem c_TS_order {l : Launch} (hTr : l.stackTraces = false) {D : va_G} {cA : Nat → ClassId} {ad : Nat → Nat} {sh : zw_Sh} {n : Nat} (hn : n ≤ 16) (hs : ∀ (k : Nat) (q : zw_Sp), shX n k = some q → sh k = some q) {b : Nat} (z : Nat) (hA : ∀ q, zw_A ad sh z q → b ≤ q) (mi : zw_I) (ml : zw_L) (x : Int32) (h2 : ¬ p_within x 0 (mi 5 8 - 1) = 0 → vp_in x n) :
    zx_M l D cA Y_TS_order 6 b ad sh z [.ref (ad 0), .int x] mi ml (p_order mi ml x) := by
  refine zx_enter (own := R_TS) (by decide) rfl (Nat.le_of_ble_eq_true rfl) ?_
  intro p e s m below meth c X hr hlocks hB Zx Zz hno ls hl
  have X : zw_C D cA R_TS prog_1_method_9_code 2 p m c s := X
  have hr : meth.sig.returnType = (some FieldType.int) := hr
  have hx := X.1
  have hb := X.2.1
  have hl : lv_has ls 2 [(0, .ref (ad 0)), (1, .int x)] := hl
  unfold p_order
  refine lv_iload_n hx hb d_TS_order_0 rfl (lv_at hl 1 rfl) ?_
  refine lv_iconst (v := 0) hx hb d_TS_order_1 (by decide) ?_
  refine lv_aload_n hx hb d_TS_order_2 rfl (lv_at hl 0 rfl) ?_
  refine zw_getR X hB fl_TS_27 0 (hs 0 _ rfl) rfl d_TS_order_3 ?_
  refine zw_getI X hB fl_TS_126 5 (hs 5 _ rfl) rfl d_TS_order_6 ?_
  refine lv_iconst (v := 1) hx hb d_TS_order_9 (by decide) ?_
  refine lv_isub hx hb d_TS_order_10 ?_
  refine zw_callSr X hB mv_TS_50 (c_TS_isWithin hn hs z mi ml x 0 ((mi 5 8) - 1)) rfl hl.1 ⟨Nat.le_of_ble_eq_true rfl, Nat.le_of_ble_eq_true rfl⟩ rfl (Nat.le_of_ble_eq_true rfl) ⟨Nat.le_of_ble_eq_true rfl, Nat.le_of_ble_eq_true rfl⟩ d_TS_order_11 (fun H locs hB => ?_)
  refine lv_if_ne (tgt := 27) hx hb d_TS_order_14 (by decide) (fun c_14 => ?_) (fun c_14 => ?_)
  · rw [if_neg c_14]
    refine lv_aload_n hx hb d_TS_order_27 rfl (lv_at hl 0 rfl) ?_
    refine zw_getR X hB fl_TS_27 0 (hs 0 _ rfl) rfl d_TS_order_28 ?_
    refine zw_getR X hB fl_TS_131 5 (hs 5 _ rfl) rfl d_TS_order_31 ?_
    refine lv_iload_n hx hb d_TS_order_34 rfl (lv_at hl 1 rfl) ?_
    refine zw_iald X hB 27 (hs 27 _ rfl) (h2 c_14) d_TS_order_35 ?_
    exact zx_ret (by decide) (by decide) (zc_iret X hr hlocks hB (by rfl) (by rfl) (by rfl) d_TS_order_36)
  · rw [if_pos c_14]
    exact zx_throw X hTr Zx Zz hA hB hno hlocks hl.1 xt_43_129 ⟨Nat.le_of_ble_eq_true rfl, Nat.le_of_ble_eq_true rfl, Nat.le_of_ble_eq_true rfl, Nat.le_of_ble_eq_true rfl⟩ rfl rfl rfl rfl rfl d_TS_order_17 d_TS_order_20 d_TS_order_21 d_TS_order_23 d_TS_order_26

set_option maxHeartbeats 4000000 in
set_option maxRecDepth 100000 in
theorem c_TS_begun {l : Launch} (hTr : l.stackTraces = false) {D : va_G} {cA : Nat → ClassId} {ad : Nat → Nat} {sh : zw_Sh} {n : Nat} (hn : n ≤ 16) (hs : ∀ (k : Nat) (q : zw_Sp), shX n k = some q → sh k = some q) {b : Nat} (z : Nat) (hA : ∀ q, zw_A ad sh z q → b ≤ q) (mi : zw_I) (ml : zw_L) (x : Int32) (h1 : ∀ x : Int32, ¬ p_isShare mi x = 0 → vp_in x n) :
    zx_M l D cA Y_TS_begun 6 b ad sh z [.ref (ad 0), .int x] mi ml (p_begun mi ml x) := by
  refine zx_enter (own := R_TS) (by decide) rfl (Nat.le_of_ble_eq_true rfl) ?_
  intro p e s m below meth c X hr hlocks hB Zx Zz hno ls hl
  have X : zw_C D cA R_TS prog_1_method_10_code 2 p m c s := X
  have hr : meth.sig.returnType = (some FieldType.int) := hr
  have hx := X.1
  have hb := X.2.1
  have hl : lv_has ls 2 [(0, .ref (ad 0)), (1, .int x)] := hl
  unfold p_begun
  refine lv_aload_n hx hb d_TS_begun_0 rfl (lv_at hl 0 rfl) ?_
  refine lv_iload_n hx hb d_TS_begun_1 rfl (lv_at hl 1 rfl) ?_
  refine zw_callVr X hB mv_TS_39 0 (hs 0 _ rfl) rfl (c_TS_isShare hn hs z mi ml x) rfl hl.1 ⟨Nat.le_of_ble_eq_true rfl, Nat.le_of_ble_eq_true rfl⟩ rfl (Nat.le_of_ble_eq_true rfl) ⟨Nat.le_of_ble_eq_true rfl, Nat.le_of_ble_eq_true rfl⟩ d_TS_begun_2 (fun H locs hB => ?_)
  refine lv_if_ne (tgt := 18) hx hb d_TS_begun_5 (by decide) (fun c_5 => ?_) (fun c_5 => ?_)
  · rw [if_neg c_5]
    refine lv_aload_n hx hb d_TS_begun_18 rfl (lv_at hl 0 rfl) ?_
    refine zw_getR X hB fl_TS_27 0 (hs 0 _ rfl) rfl d_TS_begun_19 ?_
    refine zw_getR X hB fl_TS_134 5 (hs 5 _ rfl) rfl d_TS_begun_22 ?_
    refine lv_iload_n hx hb d_TS_begun_25 rfl (lv_at hl 1 rfl) ?_
    refine zw_iald X hB 25 (hs 25 _ rfl) (h1 _ c_5) d_TS_begun_26 ?_
    exact zx_ret (by decide) (by decide) (zc_iret X hr hlocks hB (by rfl) (by rfl) (by rfl) d_TS_begun_27)
  · rw [if_pos c_5]
    exact zx_throw X hTr Zx Zz hA hB hno hlocks hl.1 xt_43_45 ⟨Nat.le_of_ble_eq_true rfl, Nat.le_of_ble_eq_true rfl, Nat.le_of_ble_eq_true rfl, Nat.le_of_ble_eq_true rfl⟩ rfl rfl rfl rfl rfl d_TS_begun_8 d_TS_begun_11 d_TS_begun_12 d_TS_begun_14 d_TS_begun_17

set_option maxHeartbeats 4000000 in
set_option maxRecDepth 100000 in
theorem c_TS_waited {l : Launch} (hTr : l.stackTraces = false) {D : va_G} {cA : Nat → ClassId} {ad : Nat → Nat} {sh : zw_Sh} {n : Nat} (hn : n ≤ 16) (hs : ∀ (k : Nat) (q : zw_Sp), shX n k = some q → sh k = some q) {b : Nat} (z : Nat) (hA : ∀ q, zw_A ad sh z q → b ≤ q) (mi : zw_I) (ml : zw_L) (x : Int32) (y : Int32) (h1 : ∀ x : Int32, ¬ p_isShare mi x = 0 → vp_in x n) :
    zx_M l D cA Y_TS_waited 6 b ad sh z [.ref (ad 0), .int x, .int y] mi ml (p_waited mi ml x y) := by
  refine zx_enter (own := R_TS) (by decide) rfl (Nat.le_of_ble_eq_true rfl) ?_
  intro p e s m below meth c X hr hlocks hB Zx Zz hno ls hl
  have X : zw_C D cA R_TS prog_1_method_11_code 3 p m c s := X
  have hr : meth.sig.returnType = (some FieldType.int) := hr
  have hx := X.1
  have hb := X.2.1
  have hl : lv_has ls 3 [(0, .ref (ad 0)), (1, .int x), (2, .int y)] := hl
  unfold p_waited
  refine lv_aload_n hx hb d_TS_waited_0 rfl (lv_at hl 0 rfl) ?_
  refine lv_iload_n hx hb d_TS_waited_1 rfl (lv_at hl 1 rfl) ?_
  refine zw_callVr X hB mv_TS_39 0 (hs 0 _ rfl) rfl (c_TS_isShare hn hs z mi ml x) rfl hl.1 ⟨Nat.le_of_ble_eq_true rfl, Nat.le_of_ble_eq_true rfl⟩ rfl (Nat.le_of_ble_eq_true rfl) ⟨Nat.le_of_ble_eq_true rfl, Nat.le_of_ble_eq_true rfl⟩ d_TS_waited_2 (fun H locs hB => ?_)
  refine lv_if_eq (tgt := 16) hx hb d_TS_waited_5 (by decide) (fun c_5 => ?_) (fun c_5 => ?_)
  · rw [if_pos c_5]
    exact zx_throw X hTr Zx Zz hA hB hno hlocks hl.1 xt_43_45 ⟨Nat.le_of_ble_eq_true rfl, Nat.le_of_ble_eq_true rfl, Nat.le_of_ble_eq_true rfl, Nat.le_of_ble_eq_true rfl⟩ rfl rfl rfl rfl rfl d_TS_waited_16 d_TS_waited_19 d_TS_waited_20 d_TS_waited_22 d_TS_waited_25
  · rw [if_neg c_5]
    refine lv_aload_n hx hb d_TS_waited_8 rfl (lv_at hl 0 rfl) ?_
    refine lv_iload_n hx hb d_TS_waited_9 rfl (lv_at hl 2 rfl) ?_
    refine zw_callVr X hB mv_TS_39 0 (hs 0 _ rfl) rfl (c_TS_isShare hn hs z mi ml y) rfl hl.1 ⟨Nat.le_of_ble_eq_true rfl, Nat.le_of_ble_eq_true rfl⟩ rfl (Nat.le_of_ble_eq_true rfl) ⟨Nat.le_of_ble_eq_true rfl, Nat.le_of_ble_eq_true rfl⟩ d_TS_waited_10 (fun H locs hB => ?_)
    refine lv_if_ne (tgt := 26) hx hb d_TS_waited_13 (by decide) (fun c_13 => ?_) (fun c_13 => ?_)
    · rw [if_neg c_13]
      refine lv_aload_n hx hb d_TS_waited_26 rfl (lv_at hl 0 rfl) ?_
      refine zw_getR X hB fl_TS_27 0 (hs 0 _ rfl) rfl d_TS_waited_27 ?_
      refine zw_getR X hB fl_TS_137 5 (hs 5 _ rfl) rfl d_TS_waited_30 ?_
      refine lv_iload_n hx hb d_TS_waited_33 rfl (lv_at hl 1 rfl) ?_
      refine zw_aald X hB 26 (Or.inl rfl) (hs 26 _ rfl) (h1 _ c_5) d_TS_waited_34 ?_
      refine lv_iload_n hx hb d_TS_waited_35 rfl (lv_at hl 2 rfl) ?_
      refine zw_iald X hB (128 + x.toNatClampNeg) (hs _ _ (shr4 hn (vlt (h1 _ c_5)))) (h1 _ c_13) d_TS_waited_36 ?_
      exact zx_ret (by decide) (by decide) (zc_iret X hr hlocks hB (by rfl) (by rfl) (by rfl) d_TS_waited_37)
    · rw [if_pos c_13]
      exact zx_throw X hTr Zx Zz hA hB hno hlocks hl.1 xt_43_45 ⟨Nat.le_of_ble_eq_true rfl, Nat.le_of_ble_eq_true rfl, Nat.le_of_ble_eq_true rfl, Nat.le_of_ble_eq_true rfl⟩ rfl rfl rfl rfl rfl d_TS_waited_16 d_TS_waited_19 d_TS_waited_20 d_TS_waited_22 d_TS_waited_25

set_option maxHeartbeats 4000000 in
set_option maxRecDepth 100000 in
theorem c_TS_run {l : Launch} (hTr : l.stackTraces = false) {D : va_G} {cA : Nat → ClassId} {ad : Nat → Nat} {sh : zw_Sh} {n : Nat} (hn : n ≤ 16) (hs : ∀ (k : Nat) (q : zw_Sp), shX n k = some q → sh k = some q) {b : Nat} (z : Nat) (hA : ∀ q, zw_A ad sh z q → b ≤ q) (mi : zw_I) (ml : zw_L) (wk : Int32) (x : Int64) (w : Nat) (h1 : ¬ p_within wk 1 16 = 0 → w ≤ 16 ∧ wk = nI w) (hI : zi n mi) (G : zw_I → Prop) (hG : zg_K n G) (hG0 : ¬ p_within wk 1 16 = 0 → G (p_prep n wk mi ml).1) (ht0 : (p_prep n wk mi ml).1 5 11 = 0) (htk : ∀ (wk : Int32) (mi : zw_I) (ml : zw_L), (p_tick n wk mi ml).2.1 5 11 = mi 5 11) (h7 : ∀ i : Nat, i < n → vp_in ((p_go n wk x mi ml).2.1 7 i) 21) :
    zx_M l D cA Y_TS_run 6 b ad sh z [.ref (ad 0), .int wk, .long x] mi ml (p_run n mi ml wk x) := by
  refine zx_enter (own := R_TS) (by decide) rfl (Nat.le_of_ble_eq_true rfl) ?_
  intro p e s m below meth c X hr hlocks hB Zx Zz hno ls hl
  have X : zw_C D cA R_TS prog_1_method_7_code 5 p m c s := X
  have hr : meth.sig.returnType = (some FieldType.int) := hr
  have hx := X.1
  have hb := X.2.1
  have hl : lv_has ls 5 [(0, .ref (ad 0)), (1, .int wk), (2, .long x)] := hl
  unfold p_run
  refine lv_iload_n hx hb d_TS_run_0 rfl (lv_at hl 1 rfl) ?_
  refine lv_iconst (v := 1) hx hb d_TS_run_1 (by decide) ?_
  refine lv_bipush (v := 16) hx hb d_TS_run_2 (by decide) ?_
  refine zw_callSr X hB mv_TS_50 (c_TS_isWithin hn hs z mi ml wk 1 16) rfl hl.1 ⟨Nat.le_of_ble_eq_true rfl, Nat.le_of_ble_eq_true rfl⟩ rfl (Nat.le_of_ble_eq_true rfl) ⟨Nat.le_of_ble_eq_true rfl, Nat.le_of_ble_eq_true rfl⟩ d_TS_run_4 (fun H locs hB => ?_)
  refine lv_if_ne (tgt := 20) hx hb d_TS_run_7 (by decide) (fun c_7 => ?_) (fun c_7 => ?_)
  · rw [if_neg c_7]
    obtain ⟨hw, ew⟩ := h1 c_7
    have hG0 := hG0 c_7
    unfold p_runB
    refine lv_aload_n hx hb d_TS_run_20 rfl (lv_at hl 0 rfl) ?_
    refine zw_getR X hB fl_TS_27 0 (hs 0 _ rfl) rfl d_TS_run_21 ?_
    refine lv_iload_n hx hb d_TS_run_24 rfl (lv_at hl 1 rfl) ?_
    refine lv_lload_n hx hb d_TS_run_25 rfl (lv_at hl 2 rfl) ?_
    refine zw_callVr X hB mv_TS_114 5 (hs 5 _ rfl) rfl (c_Course_go hn hs z mi ml wk x w hw ew hI G hG hG0 ht0 htk) rfl hl.1 ⟨Nat.le_of_ble_eq_true rfl, Nat.le_of_ble_eq_true rfl⟩ rfl (Nat.le_of_ble_eq_true rfl) ⟨Nat.le_of_ble_eq_true rfl, Nat.le_of_ble_eq_true rfl⟩ d_TS_run_26 (fun H locs hB => ?_)
    refine lv_istore (lv' := [(4, .int (p_goE (p_go n wk x mi ml).1)), (0, .ref (ad 0)), (1, .int wk), (2, .long x)]) hx hb d_TS_run_29 hl (by decide) rfl (fun ls hl => ?_)
    refine lv_iload hx hb d_TS_run_31 (lv_at hl 0 rfl) ?_
    refine lv_if_eq (tgt := 42) hx hb d_TS_run_33 (by decide) (fun c_33 => ?_) (fun c_33 => ?_)
    · rw [if_pos c_33]
      refine lv_aload_n hx hb d_TS_run_42 rfl (lv_at hl 1 rfl) ?_
      refine zw_callVv X hB mv_TS_118 0 (hs 0 _ rfl) rfl (c_TS_putValues hn hs z ((p_go n wk x mi ml).2.1) ((p_go n wk x mi ml).2.2) h7) rfl hl.1 ⟨Nat.le_of_ble_eq_true rfl, Nat.le_of_ble_eq_true rfl⟩ rfl (Nat.le_of_ble_eq_true rfl) ⟨Nat.le_of_ble_eq_true rfl, Nat.le_of_ble_eq_true rfl⟩ d_TS_run_43 (fun H locs hB => ?_)
      refine lv_iload hx hb d_TS_run_46 (lv_at hl 0 rfl) ?_
      exact zx_ret (by decide) (by decide) (zc_iret X hr hlocks hB (by rfl) (by rfl) (by rfl) d_TS_run_48)
    · rw [if_neg c_33]
      refine lv_iload hx hb d_TS_run_36 (lv_at hl 0 rfl) ?_
      refine lv_iconst (v := 1) hx hb d_TS_run_38 (by decide) ?_
      refine lv_icmp_ne (tgt := 46) hx hb d_TS_run_39 (by decide) (fun c_39 => ?_) (fun c_39 => ?_)
      · rw [if_neg c_39]
        refine lv_iload hx hb d_TS_run_46 (lv_at hl 0 rfl) ?_
        exact zx_ret (by decide) (by decide) (zc_iret X hr hlocks hB (by rfl) (by rfl) (by rfl) d_TS_run_48)
      · rw [if_pos c_39]
        refine lv_aload_n hx hb d_TS_run_42 rfl (lv_at hl 1 rfl) ?_
        refine zw_callVv X hB mv_TS_118 0 (hs 0 _ rfl) rfl (c_TS_putValues hn hs z ((p_go n wk x mi ml).2.1) ((p_go n wk x mi ml).2.2) h7) rfl hl.1 ⟨Nat.le_of_ble_eq_true rfl, Nat.le_of_ble_eq_true rfl⟩ rfl (Nat.le_of_ble_eq_true rfl) ⟨Nat.le_of_ble_eq_true rfl, Nat.le_of_ble_eq_true rfl⟩ d_TS_run_43 (fun H locs hB => ?_)
        refine lv_iload hx hb d_TS_run_46 (lv_at hl 0 rfl) ?_
        exact zx_ret (by decide) (by decide) (zc_iret X hr hlocks hB (by rfl) (by rfl) (by rfl) d_TS_run_48)
  · rw [if_pos c_7]
    exact zx_throw X hTr Zx Zz hA hB hno hlocks hl.1 xt_58_112 ⟨Nat.le_of_ble_eq_true rfl, Nat.le_of_ble_eq_true rfl, Nat.le_of_ble_eq_true rfl, Nat.le_of_ble_eq_true rfl⟩ rfl rfl rfl rfl rfl d_TS_run_10 d_TS_run_13 d_TS_run_14 d_TS_run_16 d_TS_run_19
