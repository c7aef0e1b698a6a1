abbrev Y_Model_thrown : zc_Y := (⟨R_Model, "thrown", "()I"⟩, prog_9_method_2_code, 1, (some FieldType.int))
abbrev Y_Model_isShare : zc_Y := (⟨R_Model, "isShare", "(I)Z"⟩, prog_9_method_3_code, 2, (some FieldType.boolean))
abbrev Y_Model_isIn : zc_Y := (⟨R_Model, "isIn", "(III)Z"⟩, prog_9_method_4_code, 3, (some FieldType.boolean))
abbrev Y_Model_share : zc_Y := (⟨R_Model, "share", "(IIIJ)I"⟩, prog_9_method_5_code, 6, (some FieldType.int))
abbrev Y_Model_need : zc_Y := (⟨R_Model, "need", "(IIII)I"⟩, prog_9_method_6_code, 6, (some FieldType.int))
abbrev Y_Model_free : zc_Y := (⟨R_Model, "free", "(I)I"⟩, prog_9_method_7_code, 3, (some FieldType.int))
abbrev Y_Model_failing : zc_Y := (⟨R_Model, "failing", "(IIII)I"⟩, prog_9_method_8_code, 5, (some FieldType.int))
abbrev Y_Model_stop : zc_Y := (⟨R_Model, "stop", "(I)I"⟩, prog_9_method_9_code, 3, (some FieldType.int))
abbrev Y_Model_waitsFor : zc_Y := (⟨R_Model, "waitsFor", "(I)I"⟩, prog_9_method_10_code, 4, (some FieldType.int))
abbrev Y_Model_canTake : zc_Y := (⟨R_Model, "canTake", "()Z"⟩, prog_9_method_11_code, 1, (some FieldType.boolean))
abbrev Y_Model_take : zc_Y := (⟨R_Model, "take", "(I)V"⟩, prog_9_method_12_code, 4, none)
abbrev Y_Model_fails : zc_Y := (⟨R_Model, "fails", "(II)Z"⟩, prog_9_method_13_code, 4, (some FieldType.boolean))
abbrev Y_Model_isFinished : zc_Y := (⟨R_Model, "isFinished", "(I)Z"⟩, prog_9_method_16_code, 2, (some FieldType.boolean))
theorem d_Model_thrown_0 : decode prog_9_method_2_code 0 = .ok (.aload_n 0, 1) := by decide +kernel
theorem d_Model_thrown_1 : decode prog_9_method_2_code 1 = .ok (.getfield 85, 3) := by decide +kernel
theorem d_Model_thrown_4 : decode prog_9_method_2_code 4 = .ok (.ireturn, 1) := by decide +kernel
theorem d_Model_isShare_0 : decode prog_9_method_3_code 0 = .ok (.iload_n 1, 1) := by decide +kernel
theorem d_Model_isShare_1 : decode prog_9_method_3_code 1 = .ok (.ifCond .lt 15, 3) := by decide +kernel
theorem d_Model_isShare_4 : decode prog_9_method_3_code 4 = .ok (.iload_n 1, 1) := by decide +kernel
theorem d_Model_isShare_5 : decode prog_9_method_3_code 5 = .ok (.aload_n 0, 1) := by decide +kernel
theorem d_Model_isShare_6 : decode prog_9_method_3_code 6 = .ok (.getfield 75, 3) := by decide +kernel
theorem d_Model_isShare_9 : decode prog_9_method_3_code 9 = .ok (.if_icmp .ge 7, 3) := by decide +kernel
theorem d_Model_isShare_12 : decode prog_9_method_3_code 12 = .ok (.iconst 1, 1) := by decide +kernel
theorem d_Model_isShare_13 : decode prog_9_method_3_code 13 = .ok (.goto 4, 3) := by decide +kernel
theorem d_Model_isShare_16 : decode prog_9_method_3_code 16 = .ok (.iconst 0, 1) := by decide +kernel
theorem d_Model_isShare_17 : decode prog_9_method_3_code 17 = .ok (.ireturn, 1) := by decide +kernel
theorem d_Model_isIn_0 : decode prog_9_method_4_code 0 = .ok (.iload_n 0, 1) := by decide +kernel
theorem d_Model_isIn_1 : decode prog_9_method_4_code 1 = .ok (.iload_n 1, 1) := by decide +kernel
theorem d_Model_isIn_2 : decode prog_9_method_4_code 2 = .ok (.if_icmp .lt 12, 3) := by decide +kernel
theorem d_Model_isIn_5 : decode prog_9_method_4_code 5 = .ok (.iload_n 0, 1) := by decide +kernel
theorem d_Model_isIn_6 : decode prog_9_method_4_code 6 = .ok (.iload_n 2, 1) := by decide +kernel
theorem d_Model_isIn_7 : decode prog_9_method_4_code 7 = .ok (.if_icmp .gt 7, 3) := by decide +kernel
theorem d_Model_isIn_10 : decode prog_9_method_4_code 10 = .ok (.iconst 1, 1) := by decide +kernel
theorem d_Model_isIn_11 : decode prog_9_method_4_code 11 = .ok (.goto 4, 3) := by decide +kernel
theorem d_Model_isIn_14 : decode prog_9_method_4_code 14 = .ok (.iconst 0, 1) := by decide +kernel
theorem d_Model_isIn_15 : decode prog_9_method_4_code 15 = .ok (.ireturn, 1) := by decide +kernel
theorem d_Model_share_0 : decode prog_9_method_5_code 0 = .ok (.aload_n 0, 1) := by decide +kernel
theorem d_Model_share_1 : decode prog_9_method_5_code 1 = .ok (.aload_n 0, 1) := by decide +kernel
theorem d_Model_share_2 : decode prog_9_method_5_code 2 = .ok (.iload_n 1, 1) := by decide +kernel
theorem d_Model_share_3 : decode prog_9_method_5_code 3 = .ok (.invokevirtual 88, 3) := by decide +kernel
theorem d_Model_share_6 : decode prog_9_method_5_code 6 = .ok (.ifCond .ne 7, 3) := by decide +kernel
theorem d_Model_share_9 : decode prog_9_method_5_code 9 = .ok (.iconst 1, 1) := by decide +kernel
theorem d_Model_share_10 : decode prog_9_method_5_code 10 = .ok (.goto 30, 3) := by decide +kernel
theorem d_Model_share_13 : decode prog_9_method_5_code 13 = .ok (.iload_n 2, 1) := by decide +kernel
theorem d_Model_share_14 : decode prog_9_method_5_code 14 = .ok (.iconst 1, 1) := by decide +kernel
theorem d_Model_share_15 : decode prog_9_method_5_code 15 = .ok (.bipush 20, 2) := by decide +kernel
theorem d_Model_share_17 : decode prog_9_method_5_code 17 = .ok (.invokestatic 92, 3) := by decide +kernel
theorem d_Model_share_20 : decode prog_9_method_5_code 20 = .ok (.ifCond .eq 15, 3) := by decide +kernel
theorem d_Model_share_23 : decode prog_9_method_5_code 23 = .ok (.iload_n 3, 1) := by decide +kernel
theorem d_Model_share_24 : decode prog_9_method_5_code 24 = .ok (.iconst 1, 1) := by decide +kernel
theorem d_Model_share_25 : decode prog_9_method_5_code 25 = .ok (.aload_n 0, 1) := by decide +kernel
theorem d_Model_share_26 : decode prog_9_method_5_code 26 = .ok (.getfield 79, 3) := by decide +kernel
theorem d_Model_share_29 : decode prog_9_method_5_code 29 = .ok (.invokestatic 92, 3) := by decide +kernel
theorem d_Model_share_32 : decode prog_9_method_5_code 32 = .ok (.ifCond .ne 7, 3) := by decide +kernel
theorem d_Model_share_35 : decode prog_9_method_5_code 35 = .ok (.iconst 2, 1) := by decide +kernel
theorem d_Model_share_36 : decode prog_9_method_5_code 36 = .ok (.goto 4, 3) := by decide +kernel
theorem d_Model_share_39 : decode prog_9_method_5_code 39 = .ok (.iconst 0, 1) := by decide +kernel
theorem d_Model_share_40 : decode prog_9_method_5_code 40 = .ok (.putfield 85, 3) := by decide +kernel
theorem d_Model_share_43 : decode prog_9_method_5_code 43 = .ok (.aload_n 0, 1) := by decide +kernel
theorem d_Model_share_44 : decode prog_9_method_5_code 44 = .ok (.getfield 85, 3) := by decide +kernel
theorem d_Model_share_47 : decode prog_9_method_5_code 47 = .ok (.ifCond .le 5, 3) := by decide +kernel
theorem d_Model_share_50 : decode prog_9_method_5_code 50 = .ok (.iconst 0, 1) := by decide +kernel
theorem d_Model_share_51 : decode prog_9_method_5_code 51 = .ok (.ireturn, 1) := by decide +kernel
theorem d_Model_share_52 : decode prog_9_method_5_code 52 = .ok (.aload_n 0, 1) := by decide +kernel
theorem d_Model_share_53 : decode prog_9_method_5_code 53 = .ok (.getfield 7, 3) := by decide +kernel
theorem d_Model_share_56 : decode prog_9_method_5_code 56 = .ok (.iload_n 1, 1) := by decide +kernel
theorem d_Model_share_57 : decode prog_9_method_5_code 57 = .ok (.iload_n 2, 1) := by decide +kernel
theorem d_Model_share_58 : decode prog_9_method_5_code 58 = .ok (.iastore, 1) := by decide +kernel
theorem d_Model_share_59 : decode prog_9_method_5_code 59 = .ok (.aload_n 0, 1) := by decide +kernel
theorem d_Model_share_60 : decode prog_9_method_5_code 60 = .ok (.getfield 13, 3) := by decide +kernel
theorem d_Model_share_63 : decode prog_9_method_5_code 63 = .ok (.iload_n 1, 1) := by decide +kernel
theorem d_Model_share_64 : decode prog_9_method_5_code 64 = .ok (.iload_n 3, 1) := by decide +kernel
theorem d_Model_share_65 : decode prog_9_method_5_code 65 = .ok (.iastore, 1) := by decide +kernel
theorem d_Model_share_66 : decode prog_9_method_5_code 66 = .ok (.aload_n 0, 1) := by decide +kernel
theorem d_Model_share_67 : decode prog_9_method_5_code 67 = .ok (.getfield 16, 3) := by decide +kernel
theorem d_Model_share_70 : decode prog_9_method_5_code 70 = .ok (.iload_n 1, 1) := by decide +kernel
theorem d_Model_share_71 : decode prog_9_method_5_code 71 = .ok (.lload 4, 2) := by decide +kernel
theorem d_Model_share_73 : decode prog_9_method_5_code 73 = .ok (.lastore, 1) := by decide +kernel
theorem d_Model_share_74 : decode prog_9_method_5_code 74 = .ok (.aload_n 0, 1) := by decide +kernel
theorem d_Model_share_75 : decode prog_9_method_5_code 75 = .ok (.getfield 20, 3) := by decide +kernel
theorem d_Model_share_78 : decode prog_9_method_5_code 78 = .ok (.iload_n 1, 1) := by decide +kernel
theorem d_Model_share_79 : decode prog_9_method_5_code 79 = .ok (.iaload, 1) := by decide +kernel
theorem d_Model_share_80 : decode prog_9_method_5_code 80 = .ok (.ireturn, 1) := by decide +kernel
theorem d_Model_need_0 : decode prog_9_method_6_code 0 = .ok (.aload_n 0, 1) := by decide +kernel
theorem d_Model_need_1 : decode prog_9_method_6_code 1 = .ok (.aload_n 0, 1) := by decide +kernel
theorem d_Model_need_2 : decode prog_9_method_6_code 2 = .ok (.iload_n 1, 1) := by decide +kernel
theorem d_Model_need_3 : decode prog_9_method_6_code 3 = .ok (.invokevirtual 88, 3) := by decide +kernel
theorem d_Model_need_6 : decode prog_9_method_6_code 6 = .ok (.ifCond .eq 11, 3) := by decide +kernel
theorem d_Model_need_9 : decode prog_9_method_6_code 9 = .ok (.aload_n 0, 1) := by decide +kernel
theorem d_Model_need_10 : decode prog_9_method_6_code 10 = .ok (.iload_n 3, 1) := by decide +kernel
theorem d_Model_need_11 : decode prog_9_method_6_code 11 = .ok (.invokevirtual 88, 3) := by decide +kernel
theorem d_Model_need_14 : decode prog_9_method_6_code 14 = .ok (.ifCond .ne 7, 3) := by decide +kernel
theorem d_Model_need_17 : decode prog_9_method_6_code 17 = .ok (.iconst 1, 1) := by decide +kernel
theorem d_Model_need_18 : decode prog_9_method_6_code 18 = .ok (.goto 49, 3) := by decide +kernel
theorem d_Model_need_21 : decode prog_9_method_6_code 21 = .ok (.iload_n 2, 1) := by decide +kernel
theorem d_Model_need_22 : decode prog_9_method_6_code 22 = .ok (.iconst 0, 1) := by decide +kernel
theorem d_Model_need_23 : decode prog_9_method_6_code 23 = .ok (.bipush 19, 2) := by decide +kernel
theorem d_Model_need_25 : decode prog_9_method_6_code 25 = .ok (.invokestatic 92, 3) := by decide +kernel
theorem d_Model_need_28 : decode prog_9_method_6_code 28 = .ok (.ifCond .eq 19, 3) := by decide +kernel
theorem d_Model_need_31 : decode prog_9_method_6_code 31 = .ok (.iload 4, 2) := by decide +kernel
theorem d_Model_need_33 : decode prog_9_method_6_code 33 = .ok (.iconst 1, 1) := by decide +kernel
theorem d_Model_need_34 : decode prog_9_method_6_code 34 = .ok (.bipush 20, 2) := by decide +kernel
theorem d_Model_need_36 : decode prog_9_method_6_code 36 = .ok (.invokestatic 92, 3) := by decide +kernel
theorem d_Model_need_39 : decode prog_9_method_6_code 39 = .ok (.ifCond .eq 8, 3) := by decide +kernel
theorem d_Model_need_42 : decode prog_9_method_6_code 42 = .ok (.iload_n 3, 1) := by decide +kernel
theorem d_Model_need_43 : decode prog_9_method_6_code 43 = .ok (.iload_n 1, 1) := by decide +kernel
theorem d_Model_need_44 : decode prog_9_method_6_code 44 = .ok (.if_icmp .ne 7, 3) := by decide +kernel
theorem d_Model_need_47 : decode prog_9_method_6_code 47 = .ok (.iconst 2, 1) := by decide +kernel
theorem d_Model_need_48 : decode prog_9_method_6_code 48 = .ok (.goto 19, 3) := by decide +kernel
theorem d_Model_need_51 : decode prog_9_method_6_code 51 = .ok (.aload_n 0, 1) := by decide +kernel
theorem d_Model_need_52 : decode prog_9_method_6_code 52 = .ok (.getfield 20, 3) := by decide +kernel
theorem d_Model_need_55 : decode prog_9_method_6_code 55 = .ok (.iload_n 1, 1) := by decide +kernel
theorem d_Model_need_56 : decode prog_9_method_6_code 56 = .ok (.iaload, 1) := by decide +kernel
theorem d_Model_need_57 : decode prog_9_method_6_code 57 = .ok (.bipush 6, 2) := by decide +kernel
theorem d_Model_need_59 : decode prog_9_method_6_code 59 = .ok (.if_icmp .ne 7, 3) := by decide +kernel
theorem d_Model_need_62 : decode prog_9_method_6_code 62 = .ok (.iconst 3, 1) := by decide +kernel
theorem d_Model_need_63 : decode prog_9_method_6_code 63 = .ok (.goto 4, 3) := by decide +kernel
theorem d_Model_need_66 : decode prog_9_method_6_code 66 = .ok (.iconst 0, 1) := by decide +kernel
theorem d_Model_need_67 : decode prog_9_method_6_code 67 = .ok (.putfield 85, 3) := by decide +kernel
theorem d_Model_need_70 : decode prog_9_method_6_code 70 = .ok (.aload_n 0, 1) := by decide +kernel
theorem d_Model_need_71 : decode prog_9_method_6_code 71 = .ok (.getfield 85, 3) := by decide +kernel
theorem d_Model_need_74 : decode prog_9_method_6_code 74 = .ok (.ifCond .le 5, 3) := by decide +kernel
theorem d_Model_need_77 : decode prog_9_method_6_code 77 = .ok (.iconst 0, 1) := by decide +kernel
theorem d_Model_need_78 : decode prog_9_method_6_code 78 = .ok (.ireturn, 1) := by decide +kernel
theorem d_Model_need_79 : decode prog_9_method_6_code 79 = .ok (.bipush 6, 2) := by decide +kernel
theorem d_Model_need_81 : decode prog_9_method_6_code 81 = .ok (.iload_n 1, 1) := by decide +kernel
theorem d_Model_need_82 : decode prog_9_method_6_code 82 = .ok (.imul, 1) := by decide +kernel
theorem d_Model_need_83 : decode prog_9_method_6_code 83 = .ok (.aload_n 0, 1) := by decide +kernel
theorem d_Model_need_84 : decode prog_9_method_6_code 84 = .ok (.getfield 20, 3) := by decide +kernel
theorem d_Model_need_87 : decode prog_9_method_6_code 87 = .ok (.iload_n 1, 1) := by decide +kernel
theorem d_Model_need_88 : decode prog_9_method_6_code 88 = .ok (.iaload, 1) := by decide +kernel
theorem d_Model_need_89 : decode prog_9_method_6_code 89 = .ok (.iadd, 1) := by decide +kernel
theorem d_Model_need_90 : decode prog_9_method_6_code 90 = .ok (.istore 5, 2) := by decide +kernel
theorem d_Model_need_92 : decode prog_9_method_6_code 92 = .ok (.aload_n 0, 1) := by decide +kernel
theorem d_Model_need_93 : decode prog_9_method_6_code 93 = .ok (.getfield 23, 3) := by decide +kernel
theorem d_Model_need_96 : decode prog_9_method_6_code 96 = .ok (.iload 5, 2) := by decide +kernel
theorem d_Model_need_98 : decode prog_9_method_6_code 98 = .ok (.iload_n 2, 1) := by decide +kernel
theorem d_Model_need_99 : decode prog_9_method_6_code 99 = .ok (.iastore, 1) := by decide +kernel
theorem d_Model_need_100 : decode prog_9_method_6_code 100 = .ok (.aload_n 0, 1) := by decide +kernel
theorem d_Model_need_101 : decode prog_9_method_6_code 101 = .ok (.getfield 26, 3) := by decide +kernel
theorem d_Model_need_104 : decode prog_9_method_6_code 104 = .ok (.iload 5, 2) := by decide +kernel
theorem d_Model_need_106 : decode prog_9_method_6_code 106 = .ok (.iload_n 3, 1) := by decide +kernel
theorem d_Model_need_107 : decode prog_9_method_6_code 107 = .ok (.iastore, 1) := by decide +kernel
theorem d_Model_need_108 : decode prog_9_method_6_code 108 = .ok (.aload_n 0, 1) := by decide +kernel
theorem d_Model_need_109 : decode prog_9_method_6_code 109 = .ok (.getfield 29, 3) := by decide +kernel
theorem d_Model_need_112 : decode prog_9_method_6_code 112 = .ok (.iload 5, 2) := by decide +kernel
theorem d_Model_need_114 : decode prog_9_method_6_code 114 = .ok (.iload 4, 2) := by decide +kernel
theorem d_Model_need_116 : decode prog_9_method_6_code 116 = .ok (.iastore, 1) := by decide +kernel
theorem d_Model_need_117 : decode prog_9_method_6_code 117 = .ok (.aload_n 0, 1) := by decide +kernel
theorem d_Model_need_118 : decode prog_9_method_6_code 118 = .ok (.getfield 20, 3) := by decide +kernel
theorem d_Model_need_121 : decode prog_9_method_6_code 121 = .ok (.iload_n 1, 1) := by decide +kernel
theorem d_Model_need_122 : decode prog_9_method_6_code 122 = .ok (.dup2, 1) := by decide +kernel
theorem d_Model_need_123 : decode prog_9_method_6_code 123 = .ok (.iaload, 1) := by decide +kernel
theorem d_Model_need_124 : decode prog_9_method_6_code 124 = .ok (.iconst 1, 1) := by decide +kernel
theorem d_Model_need_125 : decode prog_9_method_6_code 125 = .ok (.iadd, 1) := by decide +kernel
theorem d_Model_need_126 : decode prog_9_method_6_code 126 = .ok (.iastore, 1) := by decide +kernel
theorem d_Model_need_127 : decode prog_9_method_6_code 127 = .ok (.aload_n 0, 1) := by decide +kernel
theorem d_Model_need_128 : decode prog_9_method_6_code 128 = .ok (.getfield 20, 3) := by decide +kernel
theorem d_Model_need_131 : decode prog_9_method_6_code 131 = .ok (.iload_n 1, 1) := by decide +kernel
theorem d_Model_need_132 : decode prog_9_method_6_code 132 = .ok (.iaload, 1) := by decide +kernel
theorem d_Model_need_133 : decode prog_9_method_6_code 133 = .ok (.ireturn, 1) := by decide +kernel
theorem d_Model_free_0 : decode prog_9_method_7_code 0 = .ok (.aload_n 0, 1) := by decide +kernel
theorem d_Model_free_1 : decode prog_9_method_7_code 1 = .ok (.aload_n 0, 1) := by decide +kernel
theorem d_Model_free_2 : decode prog_9_method_7_code 2 = .ok (.iload_n 1, 1) := by decide +kernel
theorem d_Model_free_3 : decode prog_9_method_7_code 3 = .ok (.invokevirtual 88, 3) := by decide +kernel
theorem d_Model_free_6 : decode prog_9_method_7_code 6 = .ok (.ifCond .eq 7, 3) := by decide +kernel
theorem d_Model_free_9 : decode prog_9_method_7_code 9 = .ok (.iconst 0, 1) := by decide +kernel
theorem d_Model_free_10 : decode prog_9_method_7_code 10 = .ok (.goto 4, 3) := by decide +kernel
theorem d_Model_free_13 : decode prog_9_method_7_code 13 = .ok (.iconst 1, 1) := by decide +kernel
theorem d_Model_free_14 : decode prog_9_method_7_code 14 = .ok (.putfield 85, 3) := by decide +kernel
theorem d_Model_free_17 : decode prog_9_method_7_code 17 = .ok (.aload_n 0, 1) := by decide +kernel
theorem d_Model_free_18 : decode prog_9_method_7_code 18 = .ok (.getfield 85, 3) := by decide +kernel
theorem d_Model_free_21 : decode prog_9_method_7_code 21 = .ok (.ifCond .le 5, 3) := by decide +kernel
theorem d_Model_free_24 : decode prog_9_method_7_code 24 = .ok (.iconst 0, 1) := by decide +kernel
theorem d_Model_free_25 : decode prog_9_method_7_code 25 = .ok (.ireturn, 1) := by decide +kernel
theorem d_Model_free_26 : decode prog_9_method_7_code 26 = .ok (.aload_n 0, 1) := by decide +kernel
theorem d_Model_free_27 : decode prog_9_method_7_code 27 = .ok (.getfield 20, 3) := by decide +kernel
theorem d_Model_free_30 : decode prog_9_method_7_code 30 = .ok (.iload_n 1, 1) := by decide +kernel
theorem d_Model_free_31 : decode prog_9_method_7_code 31 = .ok (.iaload, 1) := by decide +kernel
theorem d_Model_free_32 : decode prog_9_method_7_code 32 = .ok (.istore_n 2, 1) := by decide +kernel
theorem d_Model_free_33 : decode prog_9_method_7_code 33 = .ok (.aload_n 0, 1) := by decide +kernel
theorem d_Model_free_34 : decode prog_9_method_7_code 34 = .ok (.getfield 20, 3) := by decide +kernel
theorem d_Model_free_37 : decode prog_9_method_7_code 37 = .ok (.iload_n 1, 1) := by decide +kernel
theorem d_Model_free_38 : decode prog_9_method_7_code 38 = .ok (.iconst 0, 1) := by decide +kernel
theorem d_Model_free_39 : decode prog_9_method_7_code 39 = .ok (.iastore, 1) := by decide +kernel
theorem d_Model_free_40 : decode prog_9_method_7_code 40 = .ok (.iload_n 2, 1) := by decide +kernel
theorem d_Model_free_41 : decode prog_9_method_7_code 41 = .ok (.ireturn, 1) := by decide +kernel
theorem d_Model_failing_0 : decode prog_9_method_8_code 0 = .ok (.aload_n 0, 1) := by decide +kernel
theorem d_Model_failing_1 : decode prog_9_method_8_code 1 = .ok (.aload_n 0, 1) := by decide +kernel
theorem d_Model_failing_2 : decode prog_9_method_8_code 2 = .ok (.iload_n 2, 1) := by decide +kernel
theorem d_Model_failing_3 : decode prog_9_method_8_code 3 = .ok (.invokevirtual 88, 3) := by decide +kernel
theorem d_Model_failing_6 : decode prog_9_method_8_code 6 = .ok (.ifCond .ne 7, 3) := by decide +kernel
theorem d_Model_failing_9 : decode prog_9_method_8_code 9 = .ok (.iconst 1, 1) := by decide +kernel
theorem d_Model_failing_10 : decode prog_9_method_8_code 10 = .ok (.goto 52, 3) := by decide +kernel
theorem d_Model_failing_13 : decode prog_9_method_8_code 13 = .ok (.iload_n 1, 1) := by decide +kernel
theorem d_Model_failing_14 : decode prog_9_method_8_code 14 = .ok (.iconst 0, 1) := by decide +kernel
theorem d_Model_failing_15 : decode prog_9_method_8_code 15 = .ok (.bipush 15, 2) := by decide +kernel
theorem d_Model_failing_17 : decode prog_9_method_8_code 17 = .ok (.invokestatic 92, 3) := by decide +kernel
theorem d_Model_failing_20 : decode prog_9_method_8_code 20 = .ok (.ifCond .eq 24, 3) := by decide +kernel
theorem d_Model_failing_23 : decode prog_9_method_8_code 23 = .ok (.iload_n 3, 1) := by decide +kernel
theorem d_Model_failing_24 : decode prog_9_method_8_code 24 = .ok (.iconst 0, 1) := by decide +kernel
theorem d_Model_failing_25 : decode prog_9_method_8_code 25 = .ok (.bipush 19, 2) := by decide +kernel
theorem d_Model_failing_27 : decode prog_9_method_8_code 27 = .ok (.invokestatic 92, 3) := by decide +kernel
theorem d_Model_failing_30 : decode prog_9_method_8_code 30 = .ok (.ifCond .eq 14, 3) := by decide +kernel
theorem d_Model_failing_33 : decode prog_9_method_8_code 33 = .ok (.iload 4, 2) := by decide +kernel
theorem d_Model_failing_35 : decode prog_9_method_8_code 35 = .ok (.iconst 1, 1) := by decide +kernel
theorem d_Model_failing_36 : decode prog_9_method_8_code 36 = .ok (.bipush 9, 2) := by decide +kernel
theorem d_Model_failing_38 : decode prog_9_method_8_code 38 = .ok (.invokestatic 92, 3) := by decide +kernel
theorem d_Model_failing_41 : decode prog_9_method_8_code 41 = .ok (.ifCond .ne 7, 3) := by decide +kernel
theorem d_Model_failing_44 : decode prog_9_method_8_code 44 = .ok (.iconst 2, 1) := by decide +kernel
theorem d_Model_failing_45 : decode prog_9_method_8_code 45 = .ok (.goto 17, 3) := by decide +kernel
theorem d_Model_failing_48 : decode prog_9_method_8_code 48 = .ok (.aload_n 0, 1) := by decide +kernel
theorem d_Model_failing_49 : decode prog_9_method_8_code 49 = .ok (.getfield 96, 3) := by decide +kernel
theorem d_Model_failing_52 : decode prog_9_method_8_code 52 = .ok (.bipush 8, 2) := by decide +kernel
theorem d_Model_failing_54 : decode prog_9_method_8_code 54 = .ok (.if_icmp .ne 7, 3) := by decide +kernel
theorem d_Model_failing_57 : decode prog_9_method_8_code 57 = .ok (.iconst 3, 1) := by decide +kernel
theorem d_Model_failing_58 : decode prog_9_method_8_code 58 = .ok (.goto 4, 3) := by decide +kernel
theorem d_Model_failing_61 : decode prog_9_method_8_code 61 = .ok (.iconst 0, 1) := by decide +kernel
theorem d_Model_failing_62 : decode prog_9_method_8_code 62 = .ok (.putfield 85, 3) := by decide +kernel
theorem d_Model_failing_65 : decode prog_9_method_8_code 65 = .ok (.aload_n 0, 1) := by decide +kernel
theorem d_Model_failing_66 : decode prog_9_method_8_code 66 = .ok (.getfield 85, 3) := by decide +kernel
theorem d_Model_failing_69 : decode prog_9_method_8_code 69 = .ok (.ifCond .le 5, 3) := by decide +kernel
theorem d_Model_failing_72 : decode prog_9_method_8_code 72 = .ok (.iconst 0, 1) := by decide +kernel
theorem d_Model_failing_73 : decode prog_9_method_8_code 73 = .ok (.ireturn, 1) := by decide +kernel
theorem d_Model_failing_74 : decode prog_9_method_8_code 74 = .ok (.aload_n 0, 1) := by decide +kernel
theorem d_Model_failing_75 : decode prog_9_method_8_code 75 = .ok (.getfield 32, 3) := by decide +kernel
theorem d_Model_failing_78 : decode prog_9_method_8_code 78 = .ok (.aload_n 0, 1) := by decide +kernel
theorem d_Model_failing_79 : decode prog_9_method_8_code 79 = .ok (.getfield 96, 3) := by decide +kernel
theorem d_Model_failing_82 : decode prog_9_method_8_code 82 = .ok (.iload_n 1, 1) := by decide +kernel
theorem d_Model_failing_83 : decode prog_9_method_8_code 83 = .ok (.iastore, 1) := by decide +kernel
theorem d_Model_failing_84 : decode prog_9_method_8_code 84 = .ok (.aload_n 0, 1) := by decide +kernel
theorem d_Model_failing_85 : decode prog_9_method_8_code 85 = .ok (.getfield 35, 3) := by decide +kernel
theorem d_Model_failing_88 : decode prog_9_method_8_code 88 = .ok (.aload_n 0, 1) := by decide +kernel
theorem d_Model_failing_89 : decode prog_9_method_8_code 89 = .ok (.getfield 96, 3) := by decide +kernel
theorem d_Model_failing_92 : decode prog_9_method_8_code 92 = .ok (.iload_n 2, 1) := by decide +kernel
theorem d_Model_failing_93 : decode prog_9_method_8_code 93 = .ok (.iastore, 1) := by decide +kernel
theorem d_Model_failing_94 : decode prog_9_method_8_code 94 = .ok (.aload_n 0, 1) := by decide +kernel
theorem d_Model_failing_95 : decode prog_9_method_8_code 95 = .ok (.getfield 38, 3) := by decide +kernel
theorem d_Model_failing_98 : decode prog_9_method_8_code 98 = .ok (.aload_n 0, 1) := by decide +kernel
theorem d_Model_failing_99 : decode prog_9_method_8_code 99 = .ok (.getfield 96, 3) := by decide +kernel
theorem d_Model_failing_102 : decode prog_9_method_8_code 102 = .ok (.iload_n 3, 1) := by decide +kernel
theorem d_Model_failing_103 : decode prog_9_method_8_code 103 = .ok (.iastore, 1) := by decide +kernel
theorem d_Model_failing_104 : decode prog_9_method_8_code 104 = .ok (.aload_n 0, 1) := by decide +kernel
theorem d_Model_failing_105 : decode prog_9_method_8_code 105 = .ok (.getfield 41, 3) := by decide +kernel
theorem d_Model_failing_108 : decode prog_9_method_8_code 108 = .ok (.aload_n 0, 1) := by decide +kernel
theorem d_Model_failing_109 : decode prog_9_method_8_code 109 = .ok (.getfield 96, 3) := by decide +kernel
theorem d_Model_failing_112 : decode prog_9_method_8_code 112 = .ok (.iload 4, 2) := by decide +kernel
theorem d_Model_failing_114 : decode prog_9_method_8_code 114 = .ok (.iastore, 1) := by decide +kernel
theorem d_Model_failing_115 : decode prog_9_method_8_code 115 = .ok (.aload_n 0, 1) := by decide +kernel
theorem d_Model_failing_116 : decode prog_9_method_8_code 116 = .ok (.dup, 1) := by decide +kernel
theorem d_Model_failing_117 : decode prog_9_method_8_code 117 = .ok (.getfield 96, 3) := by decide +kernel
theorem d_Model_failing_120 : decode prog_9_method_8_code 120 = .ok (.iconst 1, 1) := by decide +kernel
theorem d_Model_failing_121 : decode prog_9_method_8_code 121 = .ok (.iadd, 1) := by decide +kernel
theorem d_Model_failing_122 : decode prog_9_method_8_code 122 = .ok (.putfield 96, 3) := by decide +kernel
theorem d_Model_failing_125 : decode prog_9_method_8_code 125 = .ok (.aload_n 0, 1) := by decide +kernel
theorem d_Model_failing_126 : decode prog_9_method_8_code 126 = .ok (.getfield 96, 3) := by decide +kernel
theorem d_Model_failing_129 : decode prog_9_method_8_code 129 = .ok (.ireturn, 1) := by decide +kernel
theorem d_Model_stop_0 : decode prog_9_method_9_code 0 = .ok (.aload_n 0, 1) := by decide +kernel
theorem d_Model_stop_1 : decode prog_9_method_9_code 1 = .ok (.iload_n 1, 1) := by decide +kernel
theorem d_Model_stop_2 : decode prog_9_method_9_code 2 = .ok (.iconst (-1), 1) := by decide +kernel
theorem d_Model_stop_3 : decode prog_9_method_9_code 3 = .ok (.if_icmp .eq 11, 3) := by decide +kernel
theorem d_Model_stop_6 : decode prog_9_method_9_code 6 = .ok (.aload_n 0, 1) := by decide +kernel
theorem d_Model_stop_7 : decode prog_9_method_9_code 7 = .ok (.iload_n 1, 1) := by decide +kernel
theorem d_Model_stop_8 : decode prog_9_method_9_code 8 = .ok (.invokevirtual 88, 3) := by decide +kernel
theorem d_Model_stop_11 : decode prog_9_method_9_code 11 = .ok (.ifCond .eq 7, 3) := by decide +kernel
theorem d_Model_stop_14 : decode prog_9_method_9_code 14 = .ok (.iconst 0, 1) := by decide +kernel
theorem d_Model_stop_15 : decode prog_9_method_9_code 15 = .ok (.goto 4, 3) := by decide +kernel
theorem d_Model_stop_18 : decode prog_9_method_9_code 18 = .ok (.iconst 1, 1) := by decide +kernel
theorem d_Model_stop_19 : decode prog_9_method_9_code 19 = .ok (.putfield 85, 3) := by decide +kernel
theorem d_Model_stop_22 : decode prog_9_method_9_code 22 = .ok (.aload_n 0, 1) := by decide +kernel
theorem d_Model_stop_23 : decode prog_9_method_9_code 23 = .ok (.getfield 85, 3) := by decide +kernel
theorem d_Model_stop_26 : decode prog_9_method_9_code 26 = .ok (.ifCond .le 5, 3) := by decide +kernel
theorem d_Model_stop_29 : decode prog_9_method_9_code 29 = .ok (.iconst 0, 1) := by decide +kernel
theorem d_Model_stop_30 : decode prog_9_method_9_code 30 = .ok (.ireturn, 1) := by decide +kernel
theorem d_Model_stop_31 : decode prog_9_method_9_code 31 = .ok (.aload_n 0, 1) := by decide +kernel
theorem d_Model_stop_32 : decode prog_9_method_9_code 32 = .ok (.getfield 99, 3) := by decide +kernel
theorem d_Model_stop_35 : decode prog_9_method_9_code 35 = .ok (.istore_n 2, 1) := by decide +kernel
theorem d_Model_stop_36 : decode prog_9_method_9_code 36 = .ok (.aload_n 0, 1) := by decide +kernel
theorem d_Model_stop_37 : decode prog_9_method_9_code 37 = .ok (.iload_n 1, 1) := by decide +kernel
theorem d_Model_stop_38 : decode prog_9_method_9_code 38 = .ok (.putfield 99, 3) := by decide +kernel
theorem d_Model_stop_41 : decode prog_9_method_9_code 41 = .ok (.iload_n 2, 1) := by decide +kernel
theorem d_Model_stop_42 : decode prog_9_method_9_code 42 = .ok (.ireturn, 1) := by decide +kernel
theorem d_Model_waitsFor_0 : decode prog_9_method_10_code 0 = .ok (.iconst 0, 1) := by decide +kernel
theorem d_Model_waitsFor_1 : decode prog_9_method_10_code 1 = .ok (.istore_n 2, 1) := by decide +kernel
theorem d_Model_waitsFor_2 : decode prog_9_method_10_code 2 = .ok (.iload_n 2, 1) := by decide +kernel
theorem d_Model_waitsFor_3 : decode prog_9_method_10_code 3 = .ok (.aload_n 0, 1) := by decide +kernel
theorem d_Model_waitsFor_4 : decode prog_9_method_10_code 4 = .ok (.getfield 20, 3) := by decide +kernel
theorem d_Model_waitsFor_7 : decode prog_9_method_10_code 7 = .ok (.iload_n 1, 1) := by decide +kernel
theorem d_Model_waitsFor_8 : decode prog_9_method_10_code 8 = .ok (.iaload, 1) := by decide +kernel
theorem d_Model_waitsFor_9 : decode prog_9_method_10_code 9 = .ok (.if_icmp .ge 53, 3) := by decide +kernel
theorem d_Model_waitsFor_12 : decode prog_9_method_10_code 12 = .ok (.bipush 6, 2) := by decide +kernel
theorem d_Model_waitsFor_14 : decode prog_9_method_10_code 14 = .ok (.iload_n 1, 1) := by decide +kernel
theorem d_Model_waitsFor_15 : decode prog_9_method_10_code 15 = .ok (.imul, 1) := by decide +kernel
theorem d_Model_waitsFor_16 : decode prog_9_method_10_code 16 = .ok (.iload_n 2, 1) := by decide +kernel
theorem d_Model_waitsFor_17 : decode prog_9_method_10_code 17 = .ok (.iadd, 1) := by decide +kernel
theorem d_Model_waitsFor_18 : decode prog_9_method_10_code 18 = .ok (.istore_n 3, 1) := by decide +kernel
theorem d_Model_waitsFor_19 : decode prog_9_method_10_code 19 = .ok (.aload_n 0, 1) := by decide +kernel
theorem d_Model_waitsFor_20 : decode prog_9_method_10_code 20 = .ok (.getfield 23, 3) := by decide +kernel
theorem d_Model_waitsFor_23 : decode prog_9_method_10_code 23 = .ok (.iload_n 3, 1) := by decide +kernel
theorem d_Model_waitsFor_24 : decode prog_9_method_10_code 24 = .ok (.iaload, 1) := by decide +kernel
theorem d_Model_waitsFor_25 : decode prog_9_method_10_code 25 = .ok (.aload_n 0, 1) := by decide +kernel
theorem d_Model_waitsFor_26 : decode prog_9_method_10_code 26 = .ok (.getfield 57, 3) := by decide +kernel
theorem d_Model_waitsFor_29 : decode prog_9_method_10_code 29 = .ok (.iload_n 1, 1) := by decide +kernel
theorem d_Model_waitsFor_30 : decode prog_9_method_10_code 30 = .ok (.iaload, 1) := by decide +kernel
theorem d_Model_waitsFor_31 : decode prog_9_method_10_code 31 = .ok (.if_icmp .ne 25, 3) := by decide +kernel
theorem d_Model_waitsFor_34 : decode prog_9_method_10_code 34 = .ok (.aload_n 0, 1) := by decide +kernel
theorem d_Model_waitsFor_35 : decode prog_9_method_10_code 35 = .ok (.getfield 57, 3) := by decide +kernel
theorem d_Model_waitsFor_38 : decode prog_9_method_10_code 38 = .ok (.aload_n 0, 1) := by decide +kernel
theorem d_Model_waitsFor_39 : decode prog_9_method_10_code 39 = .ok (.getfield 26, 3) := by decide +kernel
theorem d_Model_waitsFor_42 : decode prog_9_method_10_code 42 = .ok (.iload_n 3, 1) := by decide +kernel
theorem d_Model_waitsFor_43 : decode prog_9_method_10_code 43 = .ok (.iaload, 1) := by decide +kernel
theorem d_Model_waitsFor_44 : decode prog_9_method_10_code 44 = .ok (.iaload, 1) := by decide +kernel
theorem d_Model_waitsFor_45 : decode prog_9_method_10_code 45 = .ok (.aload_n 0, 1) := by decide +kernel
theorem d_Model_waitsFor_46 : decode prog_9_method_10_code 46 = .ok (.getfield 29, 3) := by decide +kernel
theorem d_Model_waitsFor_49 : decode prog_9_method_10_code 49 = .ok (.iload_n 3, 1) := by decide +kernel
theorem d_Model_waitsFor_50 : decode prog_9_method_10_code 50 = .ok (.iaload, 1) := by decide +kernel
theorem d_Model_waitsFor_51 : decode prog_9_method_10_code 51 = .ok (.if_icmp .ge 5, 3) := by decide +kernel
theorem d_Model_waitsFor_54 : decode prog_9_method_10_code 54 = .ok (.iload_n 3, 1) := by decide +kernel
theorem d_Model_waitsFor_55 : decode prog_9_method_10_code 55 = .ok (.ireturn, 1) := by decide +kernel
theorem d_Model_waitsFor_56 : decode prog_9_method_10_code 56 = .ok (.iinc 2 1, 3) := by decide +kernel
theorem d_Model_waitsFor_59 : decode prog_9_method_10_code 59 = .ok (.goto (-57), 3) := by decide +kernel
theorem d_Model_waitsFor_62 : decode prog_9_method_10_code 62 = .ok (.iconst (-1), 1) := by decide +kernel
theorem d_Model_waitsFor_63 : decode prog_9_method_10_code 63 = .ok (.ireturn, 1) := by decide +kernel
theorem d_Model_canTake_0 : decode prog_9_method_11_code 0 = .ok (.aload_n 0, 1) := by decide +kernel
theorem d_Model_canTake_1 : decode prog_9_method_11_code 1 = .ok (.getfield 102, 3) := by decide +kernel
theorem d_Model_canTake_4 : decode prog_9_method_11_code 4 = .ok (.ifCond .le 30, 3) := by decide +kernel
theorem d_Model_canTake_7 : decode prog_9_method_11_code 7 = .ok (.aload_n 0, 1) := by decide +kernel
theorem d_Model_canTake_8 : decode prog_9_method_11_code 8 = .ok (.getfield 105, 3) := by decide +kernel
theorem d_Model_canTake_11 : decode prog_9_method_11_code 11 = .ok (.aload_n 0, 1) := by decide +kernel
theorem d_Model_canTake_12 : decode prog_9_method_11_code 12 = .ok (.getfield 13, 3) := by decide +kernel
theorem d_Model_canTake_15 : decode prog_9_method_11_code 15 = .ok (.aload_n 0, 1) := by decide +kernel
theorem d_Model_canTake_16 : decode prog_9_method_11_code 16 = .ok (.getfield 63, 3) := by decide +kernel
theorem d_Model_canTake_19 : decode prog_9_method_11_code 19 = .ok (.iconst 0, 1) := by decide +kernel
theorem d_Model_canTake_20 : decode prog_9_method_11_code 20 = .ok (.iaload, 1) := by decide +kernel
theorem d_Model_canTake_21 : decode prog_9_method_11_code 21 = .ok (.iaload, 1) := by decide +kernel
theorem d_Model_canTake_22 : decode prog_9_method_11_code 22 = .ok (.iadd, 1) := by decide +kernel
theorem d_Model_canTake_23 : decode prog_9_method_11_code 23 = .ok (.aload_n 0, 1) := by decide +kernel
theorem d_Model_canTake_24 : decode prog_9_method_11_code 24 = .ok (.getfield 79, 3) := by decide +kernel
theorem d_Model_canTake_27 : decode prog_9_method_11_code 27 = .ok (.if_icmp .gt 7, 3) := by decide +kernel
theorem d_Model_canTake_30 : decode prog_9_method_11_code 30 = .ok (.iconst 1, 1) := by decide +kernel
theorem d_Model_canTake_31 : decode prog_9_method_11_code 31 = .ok (.goto 4, 3) := by decide +kernel
theorem d_Model_canTake_34 : decode prog_9_method_11_code 34 = .ok (.iconst 0, 1) := by decide +kernel
theorem d_Model_canTake_35 : decode prog_9_method_11_code 35 = .ok (.ireturn, 1) := by decide +kernel
theorem d_Model_take_0 : decode prog_9_method_12_code 0 = .ok (.aload_n 0, 1) := by decide +kernel
theorem d_Model_take_1 : decode prog_9_method_12_code 1 = .ok (.getfield 63, 3) := by decide +kernel
theorem d_Model_take_4 : decode prog_9_method_12_code 4 = .ok (.iconst 0, 1) := by decide +kernel
theorem d_Model_take_5 : decode prog_9_method_12_code 5 = .ok (.iaload, 1) := by decide +kernel
theorem d_Model_take_6 : decode prog_9_method_12_code 6 = .ok (.istore_n 2, 1) := by decide +kernel
theorem d_Model_take_7 : decode prog_9_method_12_code 7 = .ok (.aload_n 0, 1) := by decide +kernel
theorem d_Model_take_8 : decode prog_9_method_12_code 8 = .ok (.dup, 1) := by decide +kernel
theorem d_Model_take_9 : decode prog_9_method_12_code 9 = .ok (.getfield 102, 3) := by decide +kernel
theorem d_Model_take_12 : decode prog_9_method_12_code 12 = .ok (.iconst 1, 1) := by decide +kernel
theorem d_Model_take_13 : decode prog_9_method_12_code 13 = .ok (.isub, 1) := by decide +kernel
theorem d_Model_take_14 : decode prog_9_method_12_code 14 = .ok (.putfield 102, 3) := by decide +kernel
theorem d_Model_take_17 : decode prog_9_method_12_code 17 = .ok (.iconst 0, 1) := by decide +kernel
theorem d_Model_take_18 : decode prog_9_method_12_code 18 = .ok (.istore_n 3, 1) := by decide +kernel
theorem d_Model_take_19 : decode prog_9_method_12_code 19 = .ok (.iload_n 3, 1) := by decide +kernel
theorem d_Model_take_20 : decode prog_9_method_12_code 20 = .ok (.aload_n 0, 1) := by decide +kernel
theorem d_Model_take_21 : decode prog_9_method_12_code 21 = .ok (.getfield 102, 3) := by decide +kernel
theorem d_Model_take_24 : decode prog_9_method_12_code 24 = .ok (.if_icmp .ge 23, 3) := by decide +kernel
theorem d_Model_take_27 : decode prog_9_method_12_code 27 = .ok (.aload_n 0, 1) := by decide +kernel
theorem d_Model_take_28 : decode prog_9_method_12_code 28 = .ok (.getfield 63, 3) := by decide +kernel
theorem d_Model_take_31 : decode prog_9_method_12_code 31 = .ok (.iload_n 3, 1) := by decide +kernel
theorem d_Model_take_32 : decode prog_9_method_12_code 32 = .ok (.aload_n 0, 1) := by decide +kernel
theorem d_Model_take_33 : decode prog_9_method_12_code 33 = .ok (.getfield 63, 3) := by decide +kernel
theorem d_Model_take_36 : decode prog_9_method_12_code 36 = .ok (.iload_n 3, 1) := by decide +kernel
theorem d_Model_take_37 : decode prog_9_method_12_code 37 = .ok (.iconst 1, 1) := by decide +kernel
theorem d_Model_take_38 : decode prog_9_method_12_code 38 = .ok (.iadd, 1) := by decide +kernel
theorem d_Model_take_39 : decode prog_9_method_12_code 39 = .ok (.iaload, 1) := by decide +kernel
theorem d_Model_take_40 : decode prog_9_method_12_code 40 = .ok (.iastore, 1) := by decide +kernel
theorem d_Model_take_41 : decode prog_9_method_12_code 41 = .ok (.iinc 3 1, 3) := by decide +kernel
theorem d_Model_take_44 : decode prog_9_method_12_code 44 = .ok (.goto (-25), 3) := by decide +kernel
theorem d_Model_take_47 : decode prog_9_method_12_code 47 = .ok (.aload_n 0, 1) := by decide +kernel
theorem d_Model_take_48 : decode prog_9_method_12_code 48 = .ok (.getfield 60, 3) := by decide +kernel
theorem d_Model_take_51 : decode prog_9_method_12_code 51 = .ok (.iload_n 1, 1) := by decide +kernel
theorem d_Model_take_52 : decode prog_9_method_12_code 52 = .ok (.iload_n 2, 1) := by decide +kernel
theorem d_Model_take_53 : decode prog_9_method_12_code 53 = .ok (.iastore, 1) := by decide +kernel
theorem d_Model_take_54 : decode prog_9_method_12_code 54 = .ok (.aload_n 0, 1) := by decide +kernel
theorem d_Model_take_55 : decode prog_9_method_12_code 55 = .ok (.getfield 69, 3) := by decide +kernel
theorem d_Model_take_58 : decode prog_9_method_12_code 58 = .ok (.iload_n 2, 1) := by decide +kernel
theorem d_Model_take_59 : decode prog_9_method_12_code 59 = .ok (.dup2, 1) := by decide +kernel
theorem d_Model_take_60 : decode prog_9_method_12_code 60 = .ok (.iaload, 1) := by decide +kernel
theorem d_Model_take_61 : decode prog_9_method_12_code 61 = .ok (.iconst 1, 1) := by decide +kernel
theorem d_Model_take_62 : decode prog_9_method_12_code 62 = .ok (.iadd, 1) := by decide +kernel
theorem d_Model_take_63 : decode prog_9_method_12_code 63 = .ok (.iastore, 1) := by decide +kernel
theorem d_Model_take_64 : decode prog_9_method_12_code 64 = .ok (.aload_n 0, 1) := by decide +kernel
theorem d_Model_take_65 : decode prog_9_method_12_code 65 = .ok (.dup, 1) := by decide +kernel
theorem d_Model_take_66 : decode prog_9_method_12_code 66 = .ok (.getfield 105, 3) := by decide +kernel
theorem d_Model_take_69 : decode prog_9_method_12_code 69 = .ok (.aload_n 0, 1) := by decide +kernel
theorem d_Model_take_70 : decode prog_9_method_12_code 70 = .ok (.getfield 13, 3) := by decide +kernel
theorem d_Model_take_73 : decode prog_9_method_12_code 73 = .ok (.iload_n 2, 1) := by decide +kernel
theorem d_Model_take_74 : decode prog_9_method_12_code 74 = .ok (.iaload, 1) := by decide +kernel
theorem d_Model_take_75 : decode prog_9_method_12_code 75 = .ok (.iadd, 1) := by decide +kernel
theorem d_Model_take_76 : decode prog_9_method_12_code 76 = .ok (.putfield 105, 3) := by decide +kernel
theorem d_Model_take_79 : decode prog_9_method_12_code 79 = .ok (.aload_n 0, 1) := by decide +kernel
theorem d_Model_take_80 : decode prog_9_method_12_code 80 = .ok (.aload_n 0, 1) := by decide +kernel
theorem d_Model_take_81 : decode prog_9_method_12_code 81 = .ok (.getfield 105, 3) := by decide +kernel
theorem d_Model_take_84 : decode prog_9_method_12_code 84 = .ok (.aload_n 0, 1) := by decide +kernel
theorem d_Model_take_85 : decode prog_9_method_12_code 85 = .ok (.getfield 108, 3) := by decide +kernel
theorem d_Model_take_88 : decode prog_9_method_12_code 88 = .ok (.if_icmp .le 10, 3) := by decide +kernel
theorem d_Model_take_91 : decode prog_9_method_12_code 91 = .ok (.aload_n 0, 1) := by decide +kernel
theorem d_Model_take_92 : decode prog_9_method_12_code 92 = .ok (.getfield 105, 3) := by decide +kernel
theorem d_Model_take_95 : decode prog_9_method_12_code 95 = .ok (.goto 7, 3) := by decide +kernel
theorem d_Model_take_98 : decode prog_9_method_12_code 98 = .ok (.aload_n 0, 1) := by decide +kernel
theorem d_Model_take_99 : decode prog_9_method_12_code 99 = .ok (.getfield 108, 3) := by decide +kernel
theorem d_Model_take_102 : decode prog_9_method_12_code 102 = .ok (.putfield 108, 3) := by decide +kernel
theorem d_Model_take_105 : decode prog_9_method_12_code 105 = .ok (.return_, 1) := by decide +kernel
theorem d_Model_fails_0 : decode prog_9_method_13_code 0 = .ok (.iconst 0, 1) := by decide +kernel
theorem d_Model_fails_1 : decode prog_9_method_13_code 1 = .ok (.istore_n 3, 1) := by decide +kernel
theorem d_Model_fails_2 : decode prog_9_method_13_code 2 = .ok (.iload_n 3, 1) := by decide +kernel
theorem d_Model_fails_3 : decode prog_9_method_13_code 3 = .ok (.aload_n 0, 1) := by decide +kernel
theorem d_Model_fails_4 : decode prog_9_method_13_code 4 = .ok (.getfield 96, 3) := by decide +kernel
theorem d_Model_fails_7 : decode prog_9_method_13_code 7 = .ok (.if_icmp .ge 65, 3) := by decide +kernel
theorem d_Model_fails_10 : decode prog_9_method_13_code 10 = .ok (.aload_n 0, 1) := by decide +kernel
theorem d_Model_fails_11 : decode prog_9_method_13_code 11 = .ok (.getfield 44, 3) := by decide +kernel
theorem d_Model_fails_14 : decode prog_9_method_13_code 14 = .ok (.iload_n 3, 1) := by decide +kernel
theorem d_Model_fails_15 : decode prog_9_method_13_code 15 = .ok (.iaload, 1) := by decide +kernel
theorem d_Model_fails_16 : decode prog_9_method_13_code 16 = .ok (.ifCond .le 50, 3) := by decide +kernel
theorem d_Model_fails_19 : decode prog_9_method_13_code 19 = .ok (.aload_n 0, 1) := by decide +kernel
theorem d_Model_fails_20 : decode prog_9_method_13_code 20 = .ok (.getfield 32, 3) := by decide +kernel
theorem d_Model_fails_23 : decode prog_9_method_13_code 23 = .ok (.iload_n 3, 1) := by decide +kernel
theorem d_Model_fails_24 : decode prog_9_method_13_code 24 = .ok (.iaload, 1) := by decide +kernel
theorem d_Model_fails_25 : decode prog_9_method_13_code 25 = .ok (.iload_n 1, 1) := by decide +kernel
theorem d_Model_fails_26 : decode prog_9_method_13_code 26 = .ok (.if_icmp .ne 40, 3) := by decide +kernel
theorem d_Model_fails_29 : decode prog_9_method_13_code 29 = .ok (.aload_n 0, 1) := by decide +kernel
theorem d_Model_fails_30 : decode prog_9_method_13_code 30 = .ok (.getfield 35, 3) := by decide +kernel
theorem d_Model_fails_33 : decode prog_9_method_13_code 33 = .ok (.iload_n 3, 1) := by decide +kernel
theorem d_Model_fails_34 : decode prog_9_method_13_code 34 = .ok (.iaload, 1) := by decide +kernel
theorem d_Model_fails_35 : decode prog_9_method_13_code 35 = .ok (.iload_n 2, 1) := by decide +kernel
theorem d_Model_fails_36 : decode prog_9_method_13_code 36 = .ok (.if_icmp .ne 30, 3) := by decide +kernel
theorem d_Model_fails_39 : decode prog_9_method_13_code 39 = .ok (.aload_n 0, 1) := by decide +kernel
theorem d_Model_fails_40 : decode prog_9_method_13_code 40 = .ok (.getfield 38, 3) := by decide +kernel
theorem d_Model_fails_43 : decode prog_9_method_13_code 43 = .ok (.iload_n 3, 1) := by decide +kernel
theorem d_Model_fails_44 : decode prog_9_method_13_code 44 = .ok (.iaload, 1) := by decide +kernel
theorem d_Model_fails_45 : decode prog_9_method_13_code 45 = .ok (.aload_n 0, 1) := by decide +kernel
theorem d_Model_fails_46 : decode prog_9_method_13_code 46 = .ok (.getfield 57, 3) := by decide +kernel
theorem d_Model_fails_49 : decode prog_9_method_13_code 49 = .ok (.iload_n 2, 1) := by decide +kernel
theorem d_Model_fails_50 : decode prog_9_method_13_code 50 = .ok (.iaload, 1) := by decide +kernel
theorem d_Model_fails_51 : decode prog_9_method_13_code 51 = .ok (.if_icmp .ne 15, 3) := by decide +kernel
theorem d_Model_fails_54 : decode prog_9_method_13_code 54 = .ok (.aload_n 0, 1) := by decide +kernel
theorem d_Model_fails_55 : decode prog_9_method_13_code 55 = .ok (.getfield 44, 3) := by decide +kernel
theorem d_Model_fails_58 : decode prog_9_method_13_code 58 = .ok (.iload_n 3, 1) := by decide +kernel
theorem d_Model_fails_59 : decode prog_9_method_13_code 59 = .ok (.dup2, 1) := by decide +kernel
theorem d_Model_fails_60 : decode prog_9_method_13_code 60 = .ok (.iaload, 1) := by decide +kernel
theorem d_Model_fails_61 : decode prog_9_method_13_code 61 = .ok (.iconst 1, 1) := by decide +kernel
theorem d_Model_fails_62 : decode prog_9_method_13_code 62 = .ok (.isub, 1) := by decide +kernel
theorem d_Model_fails_63 : decode prog_9_method_13_code 63 = .ok (.iastore, 1) := by decide +kernel
theorem d_Model_fails_64 : decode prog_9_method_13_code 64 = .ok (.iconst 1, 1) := by decide +kernel
theorem d_Model_fails_65 : decode prog_9_method_13_code 65 = .ok (.ireturn, 1) := by decide +kernel
theorem d_Model_fails_66 : decode prog_9_method_13_code 66 = .ok (.iinc 3 1, 3) := by decide +kernel
theorem d_Model_fails_69 : decode prog_9_method_13_code 69 = .ok (.goto (-67), 3) := by decide +kernel
theorem d_Model_fails_72 : decode prog_9_method_13_code 72 = .ok (.iconst 0, 1) := by decide +kernel
theorem d_Model_fails_73 : decode prog_9_method_13_code 73 = .ok (.ireturn, 1) := by decide +kernel
theorem d_Model_isFinished_0 : decode prog_9_method_16_code 0 = .ok (.aload_n 0, 1) := by decide +kernel
theorem d_Model_isFinished_1 : decode prog_9_method_16_code 1 = .ok (.getfield 57, 3) := by decide +kernel
theorem d_Model_isFinished_4 : decode prog_9_method_16_code 4 = .ok (.iload_n 1, 1) := by decide +kernel
theorem d_Model_isFinished_5 : decode prog_9_method_16_code 5 = .ok (.iaload, 1) := by decide +kernel
theorem d_Model_isFinished_6 : decode prog_9_method_16_code 6 = .ok (.aload_n 0, 1) := by decide +kernel
theorem d_Model_isFinished_7 : decode prog_9_method_16_code 7 = .ok (.getfield 7, 3) := by decide +kernel
theorem d_Model_isFinished_10 : decode prog_9_method_16_code 10 = .ok (.iload_n 1, 1) := by decide +kernel
theorem d_Model_isFinished_11 : decode prog_9_method_16_code 11 = .ok (.iaload, 1) := by decide +kernel
theorem d_Model_isFinished_12 : decode prog_9_method_16_code 12 = .ok (.if_icmp .ne 7, 3) := by decide +kernel
theorem d_Model_isFinished_15 : decode prog_9_method_16_code 15 = .ok (.iconst 1, 1) := by decide +kernel
theorem d_Model_isFinished_16 : decode prog_9_method_16_code 16 = .ok (.goto 4, 3) := by decide +kernel
theorem d_Model_isFinished_19 : decode prog_9_method_16_code 19 = .ok (.iconst 0, 1) := by decide +kernel
theorem d_Model_isFinished_20 : decode prog_9_method_16_code 20 = .ok (.ireturn, 1) := by decide +kernel
theorem fl_Model_7 : zw_FL R_Model 7 7 3 := ⟨R_Model, T_Model, 36, rfl, by decide, ly_Model, Or.inl (zw_in (List.mem_of_getElem? (i := 621) (by decide +kernel)) (by decide +kernel))⟩
theorem fl_Model_13 : zw_FL R_Model 13 7 4 := ⟨R_Model, T_Model, 36, rfl, by decide, ly_Model, Or.inl (zw_in (List.mem_of_getElem? (i := 622) (by decide +kernel)) (by decide +kernel))⟩
theorem fl_Model_16 : zw_FL R_Model 16 7 5 := ⟨R_Model, T_Model, 36, rfl, by decide, ly_Model, Or.inl (zw_in (List.mem_of_getElem? (i := 623) (by decide +kernel)) (by decide +kernel))⟩
theorem fl_Model_20 : zw_FL R_Model 20 7 6 := ⟨R_Model, T_Model, 36, rfl, by decide, ly_Model, Or.inl (zw_in (List.mem_of_getElem? (i := 624) (by decide +kernel)) (by decide +kernel))⟩
theorem fl_Model_23 : zw_FL R_Model 23 7 7 := ⟨R_Model, T_Model, 36, rfl, by decide, ly_Model, Or.inl (zw_in (List.mem_of_getElem? (i := 625) (by decide +kernel)) (by decide +kernel))⟩
theorem fl_Model_26 : zw_FL R_Model 26 7 8 := ⟨R_Model, T_Model, 36, rfl, by decide, ly_Model, Or.inl (zw_in (List.mem_of_getElem? (i := 626) (by decide +kernel)) (by decide +kernel))⟩
theorem fl_Model_29 : zw_FL R_Model 29 7 9 := ⟨R_Model, T_Model, 36, rfl, by decide, ly_Model, Or.inl (zw_in (List.mem_of_getElem? (i := 627) (by decide +kernel)) (by decide +kernel))⟩
theorem fl_Model_32 : zw_FL R_Model 32 7 10 := ⟨R_Model, T_Model, 36, rfl, by decide, ly_Model, Or.inl (zw_in (List.mem_of_getElem? (i := 628) (by decide +kernel)) (by decide +kernel))⟩
theorem fl_Model_35 : zw_FL R_Model 35 7 11 := ⟨R_Model, T_Model, 36, rfl, by decide, ly_Model, Or.inl (zw_in (List.mem_of_getElem? (i := 629) (by decide +kernel)) (by decide +kernel))⟩
theorem fl_Model_38 : zw_FL R_Model 38 7 12 := ⟨R_Model, T_Model, 36, rfl, by decide, ly_Model, Or.inl (zw_in (List.mem_of_getElem? (i := 630) (by decide +kernel)) (by decide +kernel))⟩
theorem fl_Model_41 : zw_FL R_Model 41 7 13 := ⟨R_Model, T_Model, 36, rfl, by decide, ly_Model, Or.inl (zw_in (List.mem_of_getElem? (i := 631) (by decide +kernel)) (by decide +kernel))⟩
theorem fl_Model_44 : zw_FL R_Model 44 7 14 := ⟨R_Model, T_Model, 36, rfl, by decide, ly_Model, Or.inl (zw_in (List.mem_of_getElem? (i := 632) (by decide +kernel)) (by decide +kernel))⟩
theorem fl_Model_57 : zw_FL R_Model 57 7 20 := ⟨R_Model, T_Model, 36, rfl, by decide, ly_Model, Or.inl (zw_in (List.mem_of_getElem? (i := 638) (by decide +kernel)) (by decide +kernel))⟩
theorem fl_Model_60 : zw_FL R_Model 60 7 21 := ⟨R_Model, T_Model, 36, rfl, by decide, ly_Model, Or.inl (zw_in (List.mem_of_getElem? (i := 639) (by decide +kernel)) (by decide +kernel))⟩
theorem fl_Model_63 : zw_FL R_Model 63 7 22 := ⟨R_Model, T_Model, 36, rfl, by decide, ly_Model, Or.inl (zw_in (List.mem_of_getElem? (i := 640) (by decide +kernel)) (by decide +kernel))⟩
theorem fl_Model_69 : zw_FL R_Model 69 7 27 := ⟨R_Model, T_Model, 36, rfl, by decide, ly_Model, Or.inl (zw_in (List.mem_of_getElem? (i := 645) (by decide +kernel)) (by decide +kernel))⟩
theorem fl_Model_75 : zw_FL R_Model 75 7 1 := ⟨R_Model, T_Model, 36, rfl, by decide, ly_Model, Or.inl (zw_in (List.mem_of_getElem? (i := 619) (by decide +kernel)) (by decide +kernel))⟩
theorem fl_Model_79 : zw_FL R_Model 79 7 2 := ⟨R_Model, T_Model, 36, rfl, by decide, ly_Model, Or.inl (zw_in (List.mem_of_getElem? (i := 620) (by decide +kernel)) (by decide +kernel))⟩
theorem fl_Model_85 : zw_FL R_Model 85 7 0 := ⟨R_Model, T_Model, 36, rfl, by decide, ly_Model, Or.inl (zw_in (List.mem_of_getElem? (i := 618) (by decide +kernel)) (by decide +kernel))⟩
theorem fl_Model_96 : zw_FL R_Model 96 7 15 := ⟨R_Model, T_Model, 36, rfl, by decide, ly_Model, Or.inl (zw_in (List.mem_of_getElem? (i := 633) (by decide +kernel)) (by decide +kernel))⟩
theorem fl_Model_99 : zw_FL R_Model 99 7 16 := ⟨R_Model, T_Model, 36, rfl, by decide, ly_Model, Or.inl (zw_in (List.mem_of_getElem? (i := 634) (by decide +kernel)) (by decide +kernel))⟩
theorem fl_Model_102 : zw_FL R_Model 102 7 23 := ⟨R_Model, T_Model, 36, rfl, by decide, ly_Model, Or.inl (zw_in (List.mem_of_getElem? (i := 641) (by decide +kernel)) (by decide +kernel))⟩
theorem fl_Model_105 : zw_FL R_Model 105 7 24 := ⟨R_Model, T_Model, 36, rfl, by decide, ly_Model, Or.inl (zw_in (List.mem_of_getElem? (i := 642) (by decide +kernel)) (by decide +kernel))⟩
theorem fl_Model_108 : zw_FL R_Model 108 7 34 := ⟨R_Model, T_Model, 36, rfl, by decide, ly_Model, Or.inl (zw_in (List.mem_of_getElem? (i := 652) (by decide +kernel)) (by decide +kernel))⟩
theorem fp_Model_85 : zw_FP R_Model 85 7 0 (.int) false := ⟨R_Model, T_Model, 36, ty_Model, rfl, by decide, ly_Model, ty_Model_ok, rfl, nm_Model, rfl, Or.inl ⟨(zw_in (List.mem_of_getElem? (i := 618) (by decide +kernel)) (by decide +kernel)), fun h => by cases h⟩⟩
theorem fp_Model_96 : zw_FP R_Model 96 7 15 (.int) false := ⟨R_Model, T_Model, 36, ty_Model, rfl, by decide, ly_Model, ty_Model_ok, rfl, nm_Model, rfl, Or.inl ⟨(zw_in (List.mem_of_getElem? (i := 633) (by decide +kernel)) (by decide +kernel)), fun h => by cases h⟩⟩
theorem fp_Model_99 : zw_FP R_Model 99 7 16 (.int) false := ⟨R_Model, T_Model, 36, ty_Model, rfl, by decide, ly_Model, ty_Model_ok, rfl, nm_Model, rfl, Or.inl ⟨(zw_in (List.mem_of_getElem? (i := 634) (by decide +kernel)) (by decide +kernel)), fun h => by cases h⟩⟩
theorem fp_Model_102 : zw_FP R_Model 102 7 23 (.int) false := ⟨R_Model, T_Model, 36, ty_Model, rfl, by decide, ly_Model, ty_Model_ok, rfl, nm_Model, rfl, Or.inl ⟨(zw_in (List.mem_of_getElem? (i := 641) (by decide +kernel)) (by decide +kernel)), fun h => by cases h⟩⟩
theorem fp_Model_105 : zw_FP R_Model 105 7 24 (.int) false := ⟨R_Model, T_Model, 36, ty_Model, rfl, by decide, ly_Model, ty_Model_ok, rfl, nm_Model, rfl, Or.inl ⟨(zw_in (List.mem_of_getElem? (i := 642) (by decide +kernel)) (by decide +kernel)), fun h => by cases h⟩⟩
theorem fp_Model_108 : zw_FP R_Model 108 7 34 (.int) false := ⟨R_Model, T_Model, 36, ty_Model, rfl, by decide, ly_Model, ty_Model_ok, rfl, nm_Model, rfl, Or.inl ⟨(zw_in (List.mem_of_getElem? (i := 652) (by decide +kernel)) (by decide +kernel)), fun h => by cases h⟩⟩
theorem mv_Model_88 : zw_MV R_Model 88 Y_Model_isShare R_Model 1 := ⟨Or.inl (zw_in (List.mem_of_getElem? (i := 735) (by decide +kernel)) (by decide +kernel)), (zw_in (List.mem_of_getElem? (i := 737) (by decide +kernel)) (by decide +kernel)), (zw_in (List.mem_of_getElem? (i := 13) (by decide +kernel)) (by decide +kernel)), (zw_in (List.mem_of_getElem? (i := 738) (by decide +kernel)) (by decide +kernel)), (zw_in (List.mem_of_getElem? (i := 33) (by decide +kernel)) (by decide +kernel)), by decide +kernel, by decide +kernel⟩
theorem mv_Model_92 : zw_MS R_Model 92 Y_Model_isIn 3 := ⟨Or.inl (zw_in (List.mem_of_getElem? (i := 739) (by decide +kernel)) (by decide +kernel)), (zw_in (List.mem_of_getElem? (i := 740) (by decide +kernel)) (by decide +kernel)), (zw_in (List.mem_of_getElem? (i := 741) (by decide +kernel)) (by decide +kernel)), (zw_in (List.mem_of_getElem? (i := 33) (by decide +kernel)) (by decide +kernel)), by decide +kernel, by decide +kernel⟩

set_option maxHeartbeats 4000000 in
set_option maxRecDepth 100000 in
theorem c_Model_thrown {l : Launch} {D : va_G} {cA : Nat → ClassId} {ad : Nat → Nat} {sh : zw_Sh} (hm : ∀ (k : Nat) (q : zw_Sp), shM k = some q → sh k = some q) (z : Nat) (mi : zw_I) (ml : zw_L) :
    zc_M l D cA Y_Model_thrown 0 0 0 ad sh sh z [.ref (ad 32)] mi ml (some (.int (mi 32 0))) mi ml z := by
  refine zc_enter (own := R_Model) (by decide) rfl (Nat.le_of_ble_eq_true rfl) ?_
  intro p e s m below meth c X hr hlocks hnm hB ls hl
  have X : zw_C D cA R_Model prog_9_method_2_code 1 p m c s := X
  have hr : meth.sig.returnType = (some FieldType.int) := hr
  have hx := X.1
  have hb := X.2.1
  have hl : lv_has ls 1 [(0, .ref (ad 32))] := hl
  refine lv_aload_n hx hb d_Model_thrown_0 rfl (lv_at hl 0 rfl) ?_
  refine zw_getI X hB fl_Model_85 32 (hm 32 _ rfl) rfl d_Model_thrown_1 ?_
  exact zc_iret X hr hlocks hB (by rfl) (by rfl) (by rfl) d_Model_thrown_4

set_option maxHeartbeats 4000000 in
set_option maxRecDepth 100000 in
theorem c_Model_isShare {l : Launch} {D : va_G} {cA : Nat → ClassId} {ad : Nat → Nat} {sh : zw_Sh} (hm : ∀ (k : Nat) (q : zw_Sp), shM k = some q → sh k = some q) (z : Nat) (mi : zw_I) (ml : zw_L) (x : Int32) :
    zc_M l D cA Y_Model_isShare 0 0 0 ad sh sh z [.ref (ad 32), .int x] mi ml (some (.int (q_isShare mi x))) mi ml z := by
  refine zc_enter (own := R_Model) (by decide) rfl (Nat.le_of_ble_eq_true rfl) ?_
  intro p e s m below meth c X hr hlocks hnm hB ls hl
  have X : zw_C D cA R_Model prog_9_method_3_code 2 p m c s := X
  have hr : meth.sig.returnType = (some FieldType.boolean) := hr
  have hx := X.1
  have hb := X.2.1
  have hl : lv_has ls 2 [(0, .ref (ad 32)), (1, .int x)] := hl
  unfold q_isShare
  refine lv_iload_n hx hb d_Model_isShare_0 rfl (lv_at hl 1 rfl) ?_
  refine lv_if_lt (tgt := 16) hx hb d_Model_isShare_1 (by decide) (fun c_1 => ?_) (fun c_1 => ?_)
  · rw [if_pos c_1]
    refine lv_iconst (v := 0) hx hb d_Model_isShare_16 (by decide) ?_
    exact zc_zret X hr hlocks hB (by rfl) (by rfl) (by rfl) (by rfl) d_Model_isShare_17
  · rw [if_neg c_1]
    refine lv_iload_n hx hb d_Model_isShare_4 rfl (lv_at hl 1 rfl) ?_
    refine lv_aload_n hx hb d_Model_isShare_5 rfl (lv_at hl 0 rfl) ?_
    refine zw_getI X hB fl_Model_75 32 (hm 32 _ rfl) rfl d_Model_isShare_6 ?_
    refine lv_icmp_ge (tgt := 16) hx hb d_Model_isShare_9 (by decide) (fun c_9 => ?_) (fun c_9 => ?_)
    · rw [if_pos c_9]
      refine lv_iconst (v := 0) hx hb d_Model_isShare_16 (by decide) ?_
      exact zc_zret X hr hlocks hB (by rfl) (by rfl) (by rfl) (by rfl) d_Model_isShare_17
    · rw [if_neg c_9]
      refine lv_iconst (v := 1) hx hb d_Model_isShare_12 (by decide) ?_
      refine lv_goto (tgt := 17) hx hb d_Model_isShare_13 (by decide) ?_
      exact zc_zret X hr hlocks hB (by rfl) (by rfl) (by rfl) (by rfl) d_Model_isShare_17

set_option maxHeartbeats 4000000 in
set_option maxRecDepth 100000 in
theorem c_Model_isIn {l : Launch} {D : va_G} {cA : Nat → ClassId} {ad : Nat → Nat} {sh : zw_Sh} (hm : ∀ (k : Nat) (q : zw_Sp), shM k = some q → sh k = some q) (z : Nat) (mi : zw_I) (ml : zw_L) (x : Int32) (lo : Int32) (hi : Int32) :
    zc_M l D cA Y_Model_isIn 0 0 0 ad sh sh z [.int x, .int lo, .int hi] mi ml (some (.int (p_within x lo hi))) mi ml z := by
  refine zc_enter (own := R_Model) (by decide) rfl (Nat.le_of_ble_eq_true rfl) ?_
  intro p e s m below meth c X hr hlocks hnm hB ls hl
  have X : zw_C D cA R_Model prog_9_method_4_code 3 p m c s := X
  have hr : meth.sig.returnType = (some FieldType.boolean) := hr
  have hx := X.1
  have hb := X.2.1
  have hl : lv_has ls 3 [(0, .int x), (1, .int lo), (2, .int hi)] := hl
  unfold p_within
  refine lv_iload_n hx hb d_Model_isIn_0 rfl (lv_at hl 0 rfl) ?_
  refine lv_iload_n hx hb d_Model_isIn_1 rfl (lv_at hl 1 rfl) ?_
  refine lv_icmp_lt (tgt := 14) hx hb d_Model_isIn_2 (by decide) (fun c_2 => ?_) (fun c_2 => ?_)
  · rw [if_pos c_2]
    refine lv_iconst (v := 0) hx hb d_Model_isIn_14 (by decide) ?_
    exact zc_zret X hr hlocks hB (by rfl) (by rfl) (by rfl) (by rfl) d_Model_isIn_15
  · rw [if_neg c_2]
    refine lv_iload_n hx hb d_Model_isIn_5 rfl (lv_at hl 0 rfl) ?_
    refine lv_iload_n hx hb d_Model_isIn_6 rfl (lv_at hl 2 rfl) ?_
    refine lv_icmp_gt (tgt := 14) hx hb d_Model_isIn_7 (by decide) (fun c_7 => ?_) (fun c_7 => ?_)
    · rw [if_pos c_7]
      refine lv_iconst (v := 0) hx hb d_Model_isIn_14 (by decide) ?_
      exact zc_zret X hr hlocks hB (by rfl) (by rfl) (by rfl) (by rfl) d_Model_isIn_15
    · rw [if_neg c_7]
      refine lv_iconst (v := 1) hx hb d_Model_isIn_10 (by decide) ?_
      refine lv_goto (tgt := 15) hx hb d_Model_isIn_11 (by decide) ?_
      exact zc_zret X hr hlocks hB (by rfl) (by rfl) (by rfl) (by rfl) d_Model_isIn_15

set_option maxHeartbeats 4000000 in
set_option maxRecDepth 100000 in
theorem c_Model_share {l : Launch} {D : va_G} {cA : Nat → ClassId} {ad : Nat → Nat} {sh : zw_Sh} (hm : ∀ (k : Nat) (q : zw_Sp), shM k = some q → sh k = some q) (z : Nat) (mi : zw_I) (ml : zw_L) (x : Int32) (st : Int32) (ce : Int32) (t : Int64) (h1 : ¬ q_isShare mi x = 0 → vp_in x 16) :
    zc_M l D cA Y_Model_share 1 0 0 ad sh sh z [.ref (ad 32), .int x, .int st, .int ce, .long t] mi ml (some (.int ((q_share mi ml x st ce t).1))) ((q_share mi ml x st ce t).2.1) ((q_share mi ml x st ce t).2.2) z := by
  refine zc_enter (own := R_Model) (by decide) rfl (Nat.le_of_ble_eq_true rfl) ?_
  intro p e s m below meth c X hr hlocks hnm hB ls hl
  have X : zw_C D cA R_Model prog_9_method_5_code 6 p m c s := X
  have hr : meth.sig.returnType = (some FieldType.int) := hr
  have hx := X.1
  have hb := X.2.1
  have hl : lv_has ls 6 [(0, .ref (ad 32)), (1, .int x), (2, .int st), (3, .int ce), (4, .long t)] := hl
  unfold q_share
  refine lv_aload_n hx hb d_Model_share_0 rfl (lv_at hl 0 rfl) ?_
  refine lv_aload_n hx hb d_Model_share_1 rfl (lv_at hl 0 rfl) ?_
  refine lv_iload_n hx hb d_Model_share_2 rfl (lv_at hl 1 rfl) ?_
  refine zw_callVr X hB mv_Model_88 32 (hm 32 _ rfl) rfl (c_Model_isShare hm z mi ml x) rfl hl.1 ⟨Nat.le_of_ble_eq_true rfl, Nat.le_of_ble_eq_true rfl⟩ rfl (Nat.le_of_ble_eq_true rfl) ⟨Nat.le_of_ble_eq_true rfl, Nat.le_of_ble_eq_true rfl⟩ d_Model_share_3 (fun H locs hB => ?_)
  refine lv_if_ne (tgt := 13) hx hb d_Model_share_6 (by decide) (fun c_6 => ?_) (fun c_6 => ?_)
  · rw [if_neg c_6]
    refine lv_iload_n hx hb d_Model_share_13 rfl (lv_at hl 2 rfl) ?_
    refine lv_iconst (v := 1) hx hb d_Model_share_14 (by decide) ?_
    refine lv_bipush (v := 20) hx hb d_Model_share_15 (by decide) ?_
    refine zw_callSr X hB mv_Model_92 (c_Model_isIn hm z mi ml st 1 20) rfl hl.1 ⟨Nat.le_of_ble_eq_true rfl, Nat.le_of_ble_eq_true rfl⟩ rfl (Nat.le_of_ble_eq_true rfl) ⟨Nat.le_of_ble_eq_true rfl, Nat.le_of_ble_eq_true rfl⟩ d_Model_share_17 (fun H locs hB => ?_)
    refine lv_if_eq (tgt := 35) hx hb d_Model_share_20 (by decide) (fun c_20 => ?_) (fun c_20 => ?_)
    · rw [if_pos c_20]
      refine lv_iconst (v := 2) hx hb d_Model_share_35 (by decide) ?_
      refine lv_goto (tgt := 40) hx hb d_Model_share_36 (by decide) ?_
      refine zw_putI X hB fp_Model_85 (fun h => by cases h) 32 (hm 32 _ rfl) rfl d_Model_share_40 (fun H locs hB => ?_)
      obtain ⟨mi_1, emi_1⟩ : ∃ y, y = zw_up mi 32 0 2 := ⟨_, rfl⟩
      rw [← emi_1] at hB
      refine lv_aload_n hx hb d_Model_share_43 rfl (lv_at hl 0 rfl) ?_
      refine zw_getI X hB fl_Model_85 32 (hm 32 _ rfl) rfl d_Model_share_44 ?_
      refine lv_if_le (tgt := 52) hx hb d_Model_share_47 (by decide) (fun c_47 => ?_) (fun c_47 => ?_)
      · exact absurd c_47 (by rw [emi_1, zw_up_self]; decide)
      · refine lv_iconst (v := 0) hx hb d_Model_share_50 (by decide) ?_
        exact zc_iret X hr hlocks hB (by subst emi_1; rfl) (by subst emi_1; rfl) (by subst emi_1; rfl) d_Model_share_51
    · rw [if_neg c_20]
      refine lv_iload_n hx hb d_Model_share_23 rfl (lv_at hl 3 rfl) ?_
      refine lv_iconst (v := 1) hx hb d_Model_share_24 (by decide) ?_
      refine lv_aload_n hx hb d_Model_share_25 rfl (lv_at hl 0 rfl) ?_
      refine zw_getI X hB fl_Model_79 32 (hm 32 _ rfl) rfl d_Model_share_26 ?_
      refine zw_callSr X hB mv_Model_92 (c_Model_isIn hm z mi ml ce 1 (mi 32 2)) rfl hl.1 ⟨Nat.le_of_ble_eq_true rfl, Nat.le_of_ble_eq_true rfl⟩ rfl (Nat.le_of_ble_eq_true rfl) ⟨Nat.le_of_ble_eq_true rfl, Nat.le_of_ble_eq_true rfl⟩ d_Model_share_29 (fun H locs hB => ?_)
      refine lv_if_ne (tgt := 39) hx hb d_Model_share_32 (by decide) (fun c_32 => ?_) (fun c_32 => ?_)
      · rw [if_neg c_32]
        refine lv_iconst (v := 0) hx hb d_Model_share_39 (by decide) ?_
        refine zw_putI X hB fp_Model_85 (fun h => by cases h) 32 (hm 32 _ rfl) rfl d_Model_share_40 (fun H locs hB => ?_)
        obtain ⟨mi_2, emi_2⟩ : ∃ y, y = zw_up mi 32 0 0 := ⟨_, rfl⟩
        rw [← emi_2] at hB
        refine lv_aload_n hx hb d_Model_share_43 rfl (lv_at hl 0 rfl) ?_
        refine zw_getI X hB fl_Model_85 32 (hm 32 _ rfl) rfl d_Model_share_44 ?_
        refine lv_if_le (tgt := 52) hx hb d_Model_share_47 (by decide) (fun c_47 => ?_) (fun c_47 => ?_)
        · refine lv_aload_n hx hb d_Model_share_52 rfl (lv_at hl 0 rfl) ?_
          refine zw_getR X hB fl_Model_7 32 (hm 32 _ rfl) rfl d_Model_share_53 ?_
          refine lv_iload_n hx hb d_Model_share_56 rfl (lv_at hl 1 rfl) ?_
          refine lv_iload_n hx hb d_Model_share_57 rfl (lv_at hl 2 rfl) ?_
          refine zw_iast X hB 33 (hm 33 _ rfl) (h1 c_6) d_Model_share_58 (fun H locs hB => ?_)
          obtain ⟨mi_3, emi_3⟩ : ∃ y, y = zw_up mi_2 33 x.toNatClampNeg st := ⟨_, rfl⟩
          rw [← emi_3] at hB
          refine lv_aload_n hx hb d_Model_share_59 rfl (lv_at hl 0 rfl) ?_
          refine zw_getR X hB fl_Model_13 32 (hm 32 _ rfl) rfl d_Model_share_60 ?_
          refine lv_iload_n hx hb d_Model_share_63 rfl (lv_at hl 1 rfl) ?_
          refine lv_iload_n hx hb d_Model_share_64 rfl (lv_at hl 3 rfl) ?_
          refine zw_iast X hB 34 (hm 34 _ rfl) (h1 c_6) d_Model_share_65 (fun H locs hB => ?_)
          obtain ⟨mi_4, emi_4⟩ : ∃ y, y = zw_up mi_3 34 x.toNatClampNeg ce := ⟨_, rfl⟩
          rw [← emi_4] at hB
          refine lv_aload_n hx hb d_Model_share_66 rfl (lv_at hl 0 rfl) ?_
          refine zw_getR X hB fl_Model_16 32 (hm 32 _ rfl) rfl d_Model_share_67 ?_
          refine lv_iload_n hx hb d_Model_share_70 rfl (lv_at hl 1 rfl) ?_
          refine lv_lload hx hb d_Model_share_71 (lv_at hl 4 rfl) ?_
          refine zw_last X hB 35 (hm 35 _ rfl) (h1 c_6) d_Model_share_73 (fun H locs hB => ?_)
          obtain ⟨ml_5, eml_5⟩ : ∃ y, y = zw_up ml 35 x.toNatClampNeg t := ⟨_, rfl⟩
          rw [← eml_5] at hB
          refine lv_aload_n hx hb d_Model_share_74 rfl (lv_at hl 0 rfl) ?_
          refine zw_getR X hB fl_Model_20 32 (hm 32 _ rfl) rfl d_Model_share_75 ?_
          refine lv_iload_n hx hb d_Model_share_78 rfl (lv_at hl 1 rfl) ?_
          refine zw_iald X hB 36 (hm 36 _ rfl) (h1 c_6) d_Model_share_79 ?_
          exact zc_iret X hr hlocks hB (by subst eml_5; subst emi_4; subst emi_3; subst emi_2; rfl) (by subst eml_5; subst emi_4; subst emi_3; subst emi_2; rfl) (by subst eml_5; subst emi_4; subst emi_3; subst emi_2; rfl) d_Model_share_80
        · exact absurd (by rw [emi_2, zw_up_self]; decide) c_47
      · rw [if_pos c_32]
        refine lv_iconst (v := 2) hx hb d_Model_share_35 (by decide) ?_
        refine lv_goto (tgt := 40) hx hb d_Model_share_36 (by decide) ?_
        refine zw_putI X hB fp_Model_85 (fun h => by cases h) 32 (hm 32 _ rfl) rfl d_Model_share_40 (fun H locs hB => ?_)
        obtain ⟨mi_6, emi_6⟩ : ∃ y, y = zw_up mi 32 0 2 := ⟨_, rfl⟩
        rw [← emi_6] at hB
        refine lv_aload_n hx hb d_Model_share_43 rfl (lv_at hl 0 rfl) ?_
        refine zw_getI X hB fl_Model_85 32 (hm 32 _ rfl) rfl d_Model_share_44 ?_
        refine lv_if_le (tgt := 52) hx hb d_Model_share_47 (by decide) (fun c_47 => ?_) (fun c_47 => ?_)
        · exact absurd c_47 (by rw [emi_6, zw_up_self]; decide)
        · refine lv_iconst (v := 0) hx hb d_Model_share_50 (by decide) ?_
          exact zc_iret X hr hlocks hB (by subst emi_6; rfl) (by subst emi_6; rfl) (by subst emi_6; rfl) d_Model_share_51
  · rw [if_pos c_6]
    refine lv_iconst (v := 1) hx hb d_Model_share_9 (by decide) ?_
    refine lv_goto (tgt := 40) hx hb d_Model_share_10 (by decide) ?_
    refine zw_putI X hB fp_Model_85 (fun h => by cases h) 32 (hm 32 _ rfl) rfl d_Model_share_40 (fun H locs hB => ?_)
    obtain ⟨mi_7, emi_7⟩ : ∃ y, y = zw_up mi 32 0 1 := ⟨_, rfl⟩
    rw [← emi_7] at hB
    refine lv_aload_n hx hb d_Model_share_43 rfl (lv_at hl 0 rfl) ?_
    refine zw_getI X hB fl_Model_85 32 (hm 32 _ rfl) rfl d_Model_share_44 ?_
    refine lv_if_le (tgt := 52) hx hb d_Model_share_47 (by decide) (fun c_47 => ?_) (fun c_47 => ?_)
    · exact absurd c_47 (by rw [emi_7, zw_up_self]; decide)
    · refine lv_iconst (v := 0) hx hb d_Model_share_50 (by decide) ?_
      exact zc_iret X hr hlocks hB (by subst emi_7; rfl) (by subst emi_7; rfl) (by subst emi_7; rfl) d_Model_share_51

set_option maxHeartbeats 4000000 in
set_option maxRecDepth 100000 in
theorem c_Model_need {l : Launch} {D : va_G} {cA : Nat → ClassId} {ad : Nat → Nat} {sh : zw_Sh} (hm : ∀ (k : Nat) (q : zw_Sp), shM k = some q → sh k = some q) (z : Nat) (mi : zw_I) (ml : zw_L) (x : Int32) (s0 : Int32) (o : Int32) (m0 : Int32) (h1 : ¬ q_isShare mi x = 0 → vp_in x 16) (h2 : ¬ q_isShare mi x = 0 → ¬ mi 36 x.toNatClampNeg = 6 → vp_in (6 * x + mi 36 x.toNatClampNeg) 96) :
    zc_M l D cA Y_Model_need 1 0 0 ad sh sh z [.ref (ad 32), .int x, .int s0, .int o, .int m0] mi ml (some (.int ((q_need mi x s0 o m0).1))) ((q_need mi x s0 o m0).2) ml z := by
  refine zc_enter (own := R_Model) (by decide) rfl (Nat.le_of_ble_eq_true rfl) ?_
  intro p e s m below meth c X hr hlocks hnm hB ls hl
  have X : zw_C D cA R_Model prog_9_method_6_code 6 p m c s := X
  have hr : meth.sig.returnType = (some FieldType.int) := hr
  have hx := X.1
  have hb := X.2.1
  have hl : lv_has ls 6 [(0, .ref (ad 32)), (1, .int x), (2, .int s0), (3, .int o), (4, .int m0)] := hl
  unfold q_need
  refine lv_aload_n hx hb d_Model_need_0 rfl (lv_at hl 0 rfl) ?_
  refine lv_aload_n hx hb d_Model_need_1 rfl (lv_at hl 0 rfl) ?_
  refine lv_iload_n hx hb d_Model_need_2 rfl (lv_at hl 1 rfl) ?_
  refine zw_callVr X hB mv_Model_88 32 (hm 32 _ rfl) rfl (c_Model_isShare hm z mi ml x) rfl hl.1 ⟨Nat.le_of_ble_eq_true rfl, Nat.le_of_ble_eq_true rfl⟩ rfl (Nat.le_of_ble_eq_true rfl) ⟨Nat.le_of_ble_eq_true rfl, Nat.le_of_ble_eq_true rfl⟩ d_Model_need_3 (fun H locs hB => ?_)
  refine lv_if_eq (tgt := 17) hx hb d_Model_need_6 (by decide) (fun c_6 => ?_) (fun c_6 => ?_)
  · rw [if_pos c_6]
    refine lv_iconst (v := 1) hx hb d_Model_need_17 (by decide) ?_
    refine lv_goto (tgt := 67) hx hb d_Model_need_18 (by decide) ?_
    refine zw_putI X hB fp_Model_85 (fun h => by cases h) 32 (hm 32 _ rfl) rfl d_Model_need_67 (fun H locs hB => ?_)
    obtain ⟨mi_1, emi_1⟩ : ∃ y, y = zw_up mi 32 0 1 := ⟨_, rfl⟩
    rw [← emi_1] at hB
    refine lv_aload_n hx hb d_Model_need_70 rfl (lv_at hl 0 rfl) ?_
    refine zw_getI X hB fl_Model_85 32 (hm 32 _ rfl) rfl d_Model_need_71 ?_
    refine lv_if_le (tgt := 79) hx hb d_Model_need_74 (by decide) (fun c_74 => ?_) (fun c_74 => ?_)
    · exact absurd c_74 (by rw [emi_1, zw_up_self]; decide)
    · refine lv_iconst (v := 0) hx hb d_Model_need_77 (by decide) ?_
      exact zc_iret X hr hlocks hB (by subst emi_1; rfl) (by subst emi_1; rfl) (by subst emi_1; rfl) d_Model_need_78
  · rw [if_neg c_6]
    refine lv_aload_n hx hb d_Model_need_9 rfl (lv_at hl 0 rfl) ?_
    refine lv_iload_n hx hb d_Model_need_10 rfl (lv_at hl 3 rfl) ?_
    refine zw_callVr X hB mv_Model_88 32 (hm 32 _ rfl) rfl (c_Model_isShare hm z mi ml o) rfl hl.1 ⟨Nat.le_of_ble_eq_true rfl, Nat.le_of_ble_eq_true rfl⟩ rfl (Nat.le_of_ble_eq_true rfl) ⟨Nat.le_of_ble_eq_true rfl, Nat.le_of_ble_eq_true rfl⟩ d_Model_need_11 (fun H locs hB => ?_)
    refine lv_if_ne (tgt := 21) hx hb d_Model_need_14 (by decide) (fun c_14 => ?_) (fun c_14 => ?_)
    · rw [if_neg c_14]
      refine lv_iload_n hx hb d_Model_need_21 rfl (lv_at hl 2 rfl) ?_
      refine lv_iconst (v := 0) hx hb d_Model_need_22 (by decide) ?_
      refine lv_bipush (v := 19) hx hb d_Model_need_23 (by decide) ?_
      refine zw_callSr X hB mv_Model_92 (c_Model_isIn hm z mi ml s0 0 19) rfl hl.1 ⟨Nat.le_of_ble_eq_true rfl, Nat.le_of_ble_eq_true rfl⟩ rfl (Nat.le_of_ble_eq_true rfl) ⟨Nat.le_of_ble_eq_true rfl, Nat.le_of_ble_eq_true rfl⟩ d_Model_need_25 (fun H locs hB => ?_)
      refine lv_if_eq (tgt := 47) hx hb d_Model_need_28 (by decide) (fun c_28 => ?_) (fun c_28 => ?_)
      · rw [if_pos c_28]
        refine lv_iconst (v := 2) hx hb d_Model_need_47 (by decide) ?_
        refine lv_goto (tgt := 67) hx hb d_Model_need_48 (by decide) ?_
        refine zw_putI X hB fp_Model_85 (fun h => by cases h) 32 (hm 32 _ rfl) rfl d_Model_need_67 (fun H locs hB => ?_)
        obtain ⟨mi_2, emi_2⟩ : ∃ y, y = zw_up mi 32 0 2 := ⟨_, rfl⟩
        rw [← emi_2] at hB
        refine lv_aload_n hx hb d_Model_need_70 rfl (lv_at hl 0 rfl) ?_
        refine zw_getI X hB fl_Model_85 32 (hm 32 _ rfl) rfl d_Model_need_71 ?_
        refine lv_if_le (tgt := 79) hx hb d_Model_need_74 (by decide) (fun c_74 => ?_) (fun c_74 => ?_)
        · exact absurd c_74 (by rw [emi_2, zw_up_self]; decide)
        · refine lv_iconst (v := 0) hx hb d_Model_need_77 (by decide) ?_
          exact zc_iret X hr hlocks hB (by subst emi_2; rfl) (by subst emi_2; rfl) (by subst emi_2; rfl) d_Model_need_78
      · rw [if_neg c_28]
        refine lv_iload hx hb d_Model_need_31 (lv_at hl 4 rfl) ?_
        refine lv_iconst (v := 1) hx hb d_Model_need_33 (by decide) ?_
        refine lv_bipush (v := 20) hx hb d_Model_need_34 (by decide) ?_
        refine zw_callSr X hB mv_Model_92 (c_Model_isIn hm z mi ml m0 1 20) rfl hl.1 ⟨Nat.le_of_ble_eq_true rfl, Nat.le_of_ble_eq_true rfl⟩ rfl (Nat.le_of_ble_eq_true rfl) ⟨Nat.le_of_ble_eq_true rfl, Nat.le_of_ble_eq_true rfl⟩ d_Model_need_36 (fun H locs hB => ?_)
        refine lv_if_eq (tgt := 47) hx hb d_Model_need_39 (by decide) (fun c_39 => ?_) (fun c_39 => ?_)
        · rw [if_pos c_39]
          refine lv_iconst (v := 2) hx hb d_Model_need_47 (by decide) ?_
          refine lv_goto (tgt := 67) hx hb d_Model_need_48 (by decide) ?_
          refine zw_putI X hB fp_Model_85 (fun h => by cases h) 32 (hm 32 _ rfl) rfl d_Model_need_67 (fun H locs hB => ?_)
          obtain ⟨mi_3, emi_3⟩ : ∃ y, y = zw_up mi 32 0 2 := ⟨_, rfl⟩
          rw [← emi_3] at hB
          refine lv_aload_n hx hb d_Model_need_70 rfl (lv_at hl 0 rfl) ?_
          refine zw_getI X hB fl_Model_85 32 (hm 32 _ rfl) rfl d_Model_need_71 ?_
          refine lv_if_le (tgt := 79) hx hb d_Model_need_74 (by decide) (fun c_74 => ?_) (fun c_74 => ?_)
          · exact absurd c_74 (by rw [emi_3, zw_up_self]; decide)
          · refine lv_iconst (v := 0) hx hb d_Model_need_77 (by decide) ?_
            exact zc_iret X hr hlocks hB (by subst emi_3; rfl) (by subst emi_3; rfl) (by subst emi_3; rfl) d_Model_need_78
        · rw [if_neg c_39]
          refine lv_iload_n hx hb d_Model_need_42 rfl (lv_at hl 3 rfl) ?_
          refine lv_iload_n hx hb d_Model_need_43 rfl (lv_at hl 1 rfl) ?_
          refine lv_icmp_ne (tgt := 51) hx hb d_Model_need_44 (by decide) (fun c_44 => ?_) (fun c_44 => ?_)
          · rw [if_neg c_44]
            refine lv_aload_n hx hb d_Model_need_51 rfl (lv_at hl 0 rfl) ?_
            refine zw_getR X hB fl_Model_20 32 (hm 32 _ rfl) rfl d_Model_need_52 ?_
            refine lv_iload_n hx hb d_Model_need_55 rfl (lv_at hl 1 rfl) ?_
            refine zw_iald X hB 36 (hm 36 _ rfl) (h1 c_6) d_Model_need_56 ?_
            refine lv_bipush (v := 6) hx hb d_Model_need_57 (by decide) ?_
            refine lv_icmp_ne (tgt := 66) hx hb d_Model_need_59 (by decide) (fun c_59 => ?_) (fun c_59 => ?_)
            · rw [if_neg c_59]
              refine lv_iconst (v := 0) hx hb d_Model_need_66 (by decide) ?_
              refine zw_putI X hB fp_Model_85 (fun h => by cases h) 32 (hm 32 _ rfl) rfl d_Model_need_67 (fun H locs hB => ?_)
              obtain ⟨mi_4, emi_4⟩ : ∃ y, y = zw_up mi 32 0 0 := ⟨_, rfl⟩
              rw [← emi_4] at hB
              refine lv_aload_n hx hb d_Model_need_70 rfl (lv_at hl 0 rfl) ?_
              refine zw_getI X hB fl_Model_85 32 (hm 32 _ rfl) rfl d_Model_need_71 ?_
              refine lv_if_le (tgt := 79) hx hb d_Model_need_74 (by decide) (fun c_74 => ?_) (fun c_74 => ?_)
              · refine lv_bipush (v := 6) hx hb d_Model_need_79 (by decide) ?_
                refine lv_iload_n hx hb d_Model_need_81 rfl (lv_at hl 1 rfl) ?_
                refine lv_imul hx hb d_Model_need_82 ?_
                refine lv_aload_n hx hb d_Model_need_83 rfl (lv_at hl 0 rfl) ?_
                refine zw_getR X hB fl_Model_20 32 (hm 32 _ rfl) rfl d_Model_need_84 ?_
                refine lv_iload_n hx hb d_Model_need_87 rfl (lv_at hl 1 rfl) ?_
                refine zw_iald X hB 36 (hm 36 _ rfl) (h1 c_6) d_Model_need_88 ?_
                refine lv_iadd hx hb d_Model_need_89 ?_
                refine lv_istore (lv' := [(5, .int ((6 * x) + (mi_4 36 x.toNatClampNeg))), (0, .ref (ad 32)), (1, .int x), (2, .int s0), (3, .int o), (4, .int m0)]) hx hb d_Model_need_90 hl (by decide) rfl (fun ls hl => ?_)
                refine lv_aload_n hx hb d_Model_need_92 rfl (lv_at hl 1 rfl) ?_
                refine zw_getR X hB fl_Model_23 32 (hm 32 _ rfl) rfl d_Model_need_93 ?_
                refine lv_iload hx hb d_Model_need_96 (lv_at hl 0 rfl) ?_
                refine lv_iload_n hx hb d_Model_need_98 rfl (lv_at hl 3 rfl) ?_
                refine zw_iast X hB 37 (hm 37 _ rfl) (by subst_vars; simpa [zw_up] using h2 c_6 c_59) d_Model_need_99 (fun H locs hB => ?_)
                obtain ⟨mi_5, emi_5⟩ : ∃ y, y = zw_up mi_4 37 ((6 * x) + (mi_4 36 x.toNatClampNeg)).toNatClampNeg s0 := ⟨_, rfl⟩
                rw [← emi_5] at hB
                refine lv_aload_n hx hb d_Model_need_100 rfl (lv_at hl 1 rfl) ?_
                refine zw_getR X hB fl_Model_26 32 (hm 32 _ rfl) rfl d_Model_need_101 ?_
                refine lv_iload hx hb d_Model_need_104 (lv_at hl 0 rfl) ?_
                refine lv_iload_n hx hb d_Model_need_106 rfl (lv_at hl 4 rfl) ?_
                refine zw_iast X hB 38 (hm 38 _ rfl) (by subst_vars; simpa [zw_up] using h2 c_6 c_59) d_Model_need_107 (fun H locs hB => ?_)
                obtain ⟨mi_6, emi_6⟩ : ∃ y, y = zw_up mi_5 38 ((6 * x) + (mi_4 36 x.toNatClampNeg)).toNatClampNeg o := ⟨_, rfl⟩
                rw [← emi_6] at hB
                refine lv_aload_n hx hb d_Model_need_108 rfl (lv_at hl 1 rfl) ?_
                refine zw_getR X hB fl_Model_29 32 (hm 32 _ rfl) rfl d_Model_need_109 ?_
                refine lv_iload hx hb d_Model_need_112 (lv_at hl 0 rfl) ?_
                refine lv_iload hx hb d_Model_need_114 (lv_at hl 5 rfl) ?_
                refine zw_iast X hB 39 (hm 39 _ rfl) (by subst_vars; simpa [zw_up] using h2 c_6 c_59) d_Model_need_116 (fun H locs hB => ?_)
                obtain ⟨mi_7, emi_7⟩ : ∃ y, y = zw_up mi_6 39 ((6 * x) + (mi_4 36 x.toNatClampNeg)).toNatClampNeg m0 := ⟨_, rfl⟩
                rw [← emi_7] at hB
                refine lv_aload_n hx hb d_Model_need_117 rfl (lv_at hl 1 rfl) ?_
                refine zw_getR X hB fl_Model_20 32 (hm 32 _ rfl) rfl d_Model_need_118 ?_
                refine lv_iload_n hx hb d_Model_need_121 rfl (lv_at hl 2 rfl) ?_
                refine lv_dup2_11 hx hb d_Model_need_122 rfl rfl ?_
                refine zw_iald X hB 36 (hm 36 _ rfl) (h1 c_6) d_Model_need_123 ?_
                refine lv_iconst (v := 1) hx hb d_Model_need_124 (by decide) ?_
                refine lv_iadd hx hb d_Model_need_125 ?_
                refine zw_iast X hB 36 (hm 36 _ rfl) (h1 c_6) d_Model_need_126 (fun H locs hB => ?_)
                obtain ⟨mi_8, emi_8⟩ : ∃ y, y = zw_up mi_7 36 x.toNatClampNeg ((mi_7 36 x.toNatClampNeg) + 1) := ⟨_, rfl⟩
                rw [← emi_8] at hB
                refine lv_aload_n hx hb d_Model_need_127 rfl (lv_at hl 1 rfl) ?_
                refine zw_getR X hB fl_Model_20 32 (hm 32 _ rfl) rfl d_Model_need_128 ?_
                refine lv_iload_n hx hb d_Model_need_131 rfl (lv_at hl 2 rfl) ?_
                refine zw_iald X hB 36 (hm 36 _ rfl) (h1 c_6) d_Model_need_132 ?_
                exact zc_iret X hr hlocks hB (by subst emi_8; subst emi_7; subst emi_6; subst emi_5; subst emi_4; rfl) (by subst emi_8; subst emi_7; subst emi_6; subst emi_5; subst emi_4; rfl) (by subst emi_8; subst emi_7; subst emi_6; subst emi_5; subst emi_4; rfl) d_Model_need_133
              · exact absurd (by rw [emi_4, zw_up_self]; decide) c_74
            · rw [if_pos c_59]
              refine lv_iconst (v := 3) hx hb d_Model_need_62 (by decide) ?_
              refine lv_goto (tgt := 67) hx hb d_Model_need_63 (by decide) ?_
              refine zw_putI X hB fp_Model_85 (fun h => by cases h) 32 (hm 32 _ rfl) rfl d_Model_need_67 (fun H locs hB => ?_)
              obtain ⟨mi_9, emi_9⟩ : ∃ y, y = zw_up mi 32 0 3 := ⟨_, rfl⟩
              rw [← emi_9] at hB
              refine lv_aload_n hx hb d_Model_need_70 rfl (lv_at hl 0 rfl) ?_
              refine zw_getI X hB fl_Model_85 32 (hm 32 _ rfl) rfl d_Model_need_71 ?_
              refine lv_if_le (tgt := 79) hx hb d_Model_need_74 (by decide) (fun c_74 => ?_) (fun c_74 => ?_)
              · exact absurd c_74 (by rw [emi_9, zw_up_self]; decide)
              · refine lv_iconst (v := 0) hx hb d_Model_need_77 (by decide) ?_
                exact zc_iret X hr hlocks hB (by subst emi_9; rfl) (by subst emi_9; rfl) (by subst emi_9; rfl) d_Model_need_78
          · rw [if_pos c_44]
            refine lv_iconst (v := 2) hx hb d_Model_need_47 (by decide) ?_
            refine lv_goto (tgt := 67) hx hb d_Model_need_48 (by decide) ?_
            refine zw_putI X hB fp_Model_85 (fun h => by cases h) 32 (hm 32 _ rfl) rfl d_Model_need_67 (fun H locs hB => ?_)
            obtain ⟨mi_10, emi_10⟩ : ∃ y, y = zw_up mi 32 0 2 := ⟨_, rfl⟩
            rw [← emi_10] at hB
            refine lv_aload_n hx hb d_Model_need_70 rfl (lv_at hl 0 rfl) ?_
            refine zw_getI X hB fl_Model_85 32 (hm 32 _ rfl) rfl d_Model_need_71 ?_
            refine lv_if_le (tgt := 79) hx hb d_Model_need_74 (by decide) (fun c_74 => ?_) (fun c_74 => ?_)
            · exact absurd c_74 (by rw [emi_10, zw_up_self]; decide)
            · refine lv_iconst (v := 0) hx hb d_Model_need_77 (by decide) ?_
              exact zc_iret X hr hlocks hB (by subst emi_10; rfl) (by subst emi_10; rfl) (by subst emi_10; rfl) d_Model_need_78
    · rw [if_pos c_14]
      refine lv_iconst (v := 1) hx hb d_Model_need_17 (by decide) ?_
      refine lv_goto (tgt := 67) hx hb d_Model_need_18 (by decide) ?_
      refine zw_putI X hB fp_Model_85 (fun h => by cases h) 32 (hm 32 _ rfl) rfl d_Model_need_67 (fun H locs hB => ?_)
      obtain ⟨mi_11, emi_11⟩ : ∃ y, y = zw_up mi 32 0 1 := ⟨_, rfl⟩
      rw [← emi_11] at hB
      refine lv_aload_n hx hb d_Model_need_70 rfl (lv_at hl 0 rfl) ?_
      refine zw_getI X hB fl_Model_85 32 (hm 32 _ rfl) rfl d_Model_need_71 ?_
      refine lv_if_le (tgt := 79) hx hb d_Model_need_74 (by decide) (fun c_74 => ?_) (fun c_74 => ?_)
      · exact absurd c_74 (by rw [emi_11, zw_up_self]; decide)
      · refine lv_iconst (v := 0) hx hb d_Model_need_77 (by decide) ?_
        exact zc_iret X hr hlocks hB (by subst emi_11; rfl) (by subst emi_11; rfl) (by subst emi_11; rfl) d_Model_need_78

set_option maxHeartbeats 4000000 in
set_option maxRecDepth 100000 in
theorem c_Model_free {l : Launch} {D : va_G} {cA : Nat → ClassId} {ad : Nat → Nat} {sh : zw_Sh} (hm : ∀ (k : Nat) (q : zw_Sp), shM k = some q → sh k = some q) (z : Nat) (mi : zw_I) (ml : zw_L) (x : Int32) (h1 : ¬ q_isShare mi x = 0 → vp_in x 16) :
    zc_M l D cA Y_Model_free 1 0 0 ad sh sh z [.ref (ad 32), .int x] mi ml (some (.int ((q_free mi x).1))) ((q_free mi x).2) ml z := by
  refine zc_enter (own := R_Model) (by decide) rfl (Nat.le_of_ble_eq_true rfl) ?_
  intro p e s m below meth c X hr hlocks hnm hB ls hl
  have X : zw_C D cA R_Model prog_9_method_7_code 3 p m c s := X
  have hr : meth.sig.returnType = (some FieldType.int) := hr
  have hx := X.1
  have hb := X.2.1
  have hl : lv_has ls 3 [(0, .ref (ad 32)), (1, .int x)] := hl
  unfold q_free
  refine lv_aload_n hx hb d_Model_free_0 rfl (lv_at hl 0 rfl) ?_
  refine lv_aload_n hx hb d_Model_free_1 rfl (lv_at hl 0 rfl) ?_
  refine lv_iload_n hx hb d_Model_free_2 rfl (lv_at hl 1 rfl) ?_
  refine zw_callVr X hB mv_Model_88 32 (hm 32 _ rfl) rfl (c_Model_isShare hm z mi ml x) rfl hl.1 ⟨Nat.le_of_ble_eq_true rfl, Nat.le_of_ble_eq_true rfl⟩ rfl (Nat.le_of_ble_eq_true rfl) ⟨Nat.le_of_ble_eq_true rfl, Nat.le_of_ble_eq_true rfl⟩ d_Model_free_3 (fun H locs hB => ?_)
  refine lv_if_eq (tgt := 13) hx hb d_Model_free_6 (by decide) (fun c_6 => ?_) (fun c_6 => ?_)
  · rw [if_pos c_6]
    refine lv_iconst (v := 1) hx hb d_Model_free_13 (by decide) ?_
    refine zw_putI X hB fp_Model_85 (fun h => by cases h) 32 (hm 32 _ rfl) rfl d_Model_free_14 (fun H locs hB => ?_)
    obtain ⟨mi_1, emi_1⟩ : ∃ y, y = zw_up mi 32 0 1 := ⟨_, rfl⟩
    rw [← emi_1] at hB
    refine lv_aload_n hx hb d_Model_free_17 rfl (lv_at hl 0 rfl) ?_
    refine zw_getI X hB fl_Model_85 32 (hm 32 _ rfl) rfl d_Model_free_18 ?_
    refine lv_if_le (tgt := 26) hx hb d_Model_free_21 (by decide) (fun c_21 => ?_) (fun c_21 => ?_)
    · exact absurd c_21 (by rw [emi_1, zw_up_self]; decide)
    · refine lv_iconst (v := 0) hx hb d_Model_free_24 (by decide) ?_
      exact zc_iret X hr hlocks hB (by subst emi_1; rfl) (by subst emi_1; rfl) (by subst emi_1; rfl) d_Model_free_25
  · rw [if_neg c_6]
    refine lv_iconst (v := 0) hx hb d_Model_free_9 (by decide) ?_
    refine lv_goto (tgt := 14) hx hb d_Model_free_10 (by decide) ?_
    refine zw_putI X hB fp_Model_85 (fun h => by cases h) 32 (hm 32 _ rfl) rfl d_Model_free_14 (fun H locs hB => ?_)
    obtain ⟨mi_2, emi_2⟩ : ∃ y, y = zw_up mi 32 0 0 := ⟨_, rfl⟩
    rw [← emi_2] at hB
    refine lv_aload_n hx hb d_Model_free_17 rfl (lv_at hl 0 rfl) ?_
    refine zw_getI X hB fl_Model_85 32 (hm 32 _ rfl) rfl d_Model_free_18 ?_
    refine lv_if_le (tgt := 26) hx hb d_Model_free_21 (by decide) (fun c_21 => ?_) (fun c_21 => ?_)
    · refine lv_aload_n hx hb d_Model_free_26 rfl (lv_at hl 0 rfl) ?_
      refine zw_getR X hB fl_Model_20 32 (hm 32 _ rfl) rfl d_Model_free_27 ?_
      refine lv_iload_n hx hb d_Model_free_30 rfl (lv_at hl 1 rfl) ?_
      refine zw_iald X hB 36 (hm 36 _ rfl) (h1 c_6) d_Model_free_31 ?_
      refine lv_istore_n (lv' := [(2, .int (mi_2 36 x.toNatClampNeg)), (0, .ref (ad 32)), (1, .int x)]) hx hb d_Model_free_32 rfl hl (by decide) rfl (fun ls hl => ?_)
      refine lv_aload_n hx hb d_Model_free_33 rfl (lv_at hl 1 rfl) ?_
      refine zw_getR X hB fl_Model_20 32 (hm 32 _ rfl) rfl d_Model_free_34 ?_
      refine lv_iload_n hx hb d_Model_free_37 rfl (lv_at hl 2 rfl) ?_
      refine lv_iconst (v := 0) hx hb d_Model_free_38 (by decide) ?_
      refine zw_iast X hB 36 (hm 36 _ rfl) (h1 c_6) d_Model_free_39 (fun H locs hB => ?_)
      obtain ⟨mi_3, emi_3⟩ : ∃ y, y = zw_up mi_2 36 x.toNatClampNeg 0 := ⟨_, rfl⟩
      rw [← emi_3] at hB
      refine lv_iload_n hx hb d_Model_free_40 rfl (lv_at hl 0 rfl) ?_
      exact zc_iret X hr hlocks hB (by subst emi_3; subst emi_2; rfl) (by subst emi_3; subst emi_2; rfl) (by subst emi_3; subst emi_2; rfl) d_Model_free_41
    · exact absurd (by rw [emi_2, zw_up_self]; decide) c_21

set_option maxHeartbeats 4000000 in
set_option maxRecDepth 100000 in
theorem c_Model_failing {l : Launch} {D : va_G} {cA : Nat → ClassId} {ad : Nat → Nat} {sh : zw_Sh} (hm : ∀ (k : Nat) (q : zw_Sp), shM k = some q → sh k = some q) (z : Nat) (mi : zw_I) (ml : zw_L) (w : Int32) (x : Int32) (s0 : Int32) (t : Int32) (h1 : ¬ mi 32 15 = 8 → vp_in (mi 32 15) 8) :
    zc_M l D cA Y_Model_failing 1 0 0 ad sh sh z [.ref (ad 32), .int w, .int x, .int s0, .int t] mi ml (some (.int ((q_failing mi w x s0 t).1))) ((q_failing mi w x s0 t).2) ml z := by
  refine zc_enter (own := R_Model) (by decide) rfl (Nat.le_of_ble_eq_true rfl) ?_
  intro p e s m below meth c X hr hlocks hnm hB ls hl
  have X : zw_C D cA R_Model prog_9_method_8_code 5 p m c s := X
  have hr : meth.sig.returnType = (some FieldType.int) := hr
  have hx := X.1
  have hb := X.2.1
  have hl : lv_has ls 5 [(0, .ref (ad 32)), (1, .int w), (2, .int x), (3, .int s0), (4, .int t)] := hl
  unfold q_failing
  refine lv_aload_n hx hb d_Model_failing_0 rfl (lv_at hl 0 rfl) ?_
  refine lv_aload_n hx hb d_Model_failing_1 rfl (lv_at hl 0 rfl) ?_
  refine lv_iload_n hx hb d_Model_failing_2 rfl (lv_at hl 2 rfl) ?_
  refine zw_callVr X hB mv_Model_88 32 (hm 32 _ rfl) rfl (c_Model_isShare hm z mi ml x) rfl hl.1 ⟨Nat.le_of_ble_eq_true rfl, Nat.le_of_ble_eq_true rfl⟩ rfl (Nat.le_of_ble_eq_true rfl) ⟨Nat.le_of_ble_eq_true rfl, Nat.le_of_ble_eq_true rfl⟩ d_Model_failing_3 (fun H locs hB => ?_)
  refine lv_if_ne (tgt := 13) hx hb d_Model_failing_6 (by decide) (fun c_6 => ?_) (fun c_6 => ?_)
  · rw [if_neg c_6]
    refine lv_iload_n hx hb d_Model_failing_13 rfl (lv_at hl 1 rfl) ?_
    refine lv_iconst (v := 0) hx hb d_Model_failing_14 (by decide) ?_
    refine lv_bipush (v := 15) hx hb d_Model_failing_15 (by decide) ?_
    refine zw_callSr X hB mv_Model_92 (c_Model_isIn hm z mi ml w 0 15) rfl hl.1 ⟨Nat.le_of_ble_eq_true rfl, Nat.le_of_ble_eq_true rfl⟩ rfl (Nat.le_of_ble_eq_true rfl) ⟨Nat.le_of_ble_eq_true rfl, Nat.le_of_ble_eq_true rfl⟩ d_Model_failing_17 (fun H locs hB => ?_)
    refine lv_if_eq (tgt := 44) hx hb d_Model_failing_20 (by decide) (fun c_20 => ?_) (fun c_20 => ?_)
    · rw [if_pos c_20]
      refine lv_iconst (v := 2) hx hb d_Model_failing_44 (by decide) ?_
      refine lv_goto (tgt := 62) hx hb d_Model_failing_45 (by decide) ?_
      refine zw_putI X hB fp_Model_85 (fun h => by cases h) 32 (hm 32 _ rfl) rfl d_Model_failing_62 (fun H locs hB => ?_)
      obtain ⟨mi_1, emi_1⟩ : ∃ y, y = zw_up mi 32 0 2 := ⟨_, rfl⟩
      rw [← emi_1] at hB
      refine lv_aload_n hx hb d_Model_failing_65 rfl (lv_at hl 0 rfl) ?_
      refine zw_getI X hB fl_Model_85 32 (hm 32 _ rfl) rfl d_Model_failing_66 ?_
      refine lv_if_le (tgt := 74) hx hb d_Model_failing_69 (by decide) (fun c_69 => ?_) (fun c_69 => ?_)
      · exact absurd c_69 (by rw [emi_1, zw_up_self]; decide)
      · refine lv_iconst (v := 0) hx hb d_Model_failing_72 (by decide) ?_
        exact zc_iret X hr hlocks hB (by subst emi_1; rfl) (by subst emi_1; rfl) (by subst emi_1; rfl) d_Model_failing_73
    · rw [if_neg c_20]
      refine lv_iload_n hx hb d_Model_failing_23 rfl (lv_at hl 3 rfl) ?_
      refine lv_iconst (v := 0) hx hb d_Model_failing_24 (by decide) ?_
      refine lv_bipush (v := 19) hx hb d_Model_failing_25 (by decide) ?_
      refine zw_callSr X hB mv_Model_92 (c_Model_isIn hm z mi ml s0 0 19) rfl hl.1 ⟨Nat.le_of_ble_eq_true rfl, Nat.le_of_ble_eq_true rfl⟩ rfl (Nat.le_of_ble_eq_true rfl) ⟨Nat.le_of_ble_eq_true rfl, Nat.le_of_ble_eq_true rfl⟩ d_Model_failing_27 (fun H locs hB => ?_)
      refine lv_if_eq (tgt := 44) hx hb d_Model_failing_30 (by decide) (fun c_30 => ?_) (fun c_30 => ?_)
      · rw [if_pos c_30]
        refine lv_iconst (v := 2) hx hb d_Model_failing_44 (by decide) ?_
        refine lv_goto (tgt := 62) hx hb d_Model_failing_45 (by decide) ?_
        refine zw_putI X hB fp_Model_85 (fun h => by cases h) 32 (hm 32 _ rfl) rfl d_Model_failing_62 (fun H locs hB => ?_)
        obtain ⟨mi_2, emi_2⟩ : ∃ y, y = zw_up mi 32 0 2 := ⟨_, rfl⟩
        rw [← emi_2] at hB
        refine lv_aload_n hx hb d_Model_failing_65 rfl (lv_at hl 0 rfl) ?_
        refine zw_getI X hB fl_Model_85 32 (hm 32 _ rfl) rfl d_Model_failing_66 ?_
        refine lv_if_le (tgt := 74) hx hb d_Model_failing_69 (by decide) (fun c_69 => ?_) (fun c_69 => ?_)
        · exact absurd c_69 (by rw [emi_2, zw_up_self]; decide)
        · refine lv_iconst (v := 0) hx hb d_Model_failing_72 (by decide) ?_
          exact zc_iret X hr hlocks hB (by subst emi_2; rfl) (by subst emi_2; rfl) (by subst emi_2; rfl) d_Model_failing_73
      · rw [if_neg c_30]
        refine lv_iload hx hb d_Model_failing_33 (lv_at hl 4 rfl) ?_
        refine lv_iconst (v := 1) hx hb d_Model_failing_35 (by decide) ?_
        refine lv_bipush (v := 9) hx hb d_Model_failing_36 (by decide) ?_
        refine zw_callSr X hB mv_Model_92 (c_Model_isIn hm z mi ml t 1 9) rfl hl.1 ⟨Nat.le_of_ble_eq_true rfl, Nat.le_of_ble_eq_true rfl⟩ rfl (Nat.le_of_ble_eq_true rfl) ⟨Nat.le_of_ble_eq_true rfl, Nat.le_of_ble_eq_true rfl⟩ d_Model_failing_38 (fun H locs hB => ?_)
        refine lv_if_ne (tgt := 48) hx hb d_Model_failing_41 (by decide) (fun c_41 => ?_) (fun c_41 => ?_)
        · rw [if_neg c_41]
          refine lv_aload_n hx hb d_Model_failing_48 rfl (lv_at hl 0 rfl) ?_
          refine zw_getI X hB fl_Model_96 32 (hm 32 _ rfl) rfl d_Model_failing_49 ?_
          refine lv_bipush (v := 8) hx hb d_Model_failing_52 (by decide) ?_
          refine lv_icmp_ne (tgt := 61) hx hb d_Model_failing_54 (by decide) (fun c_54 => ?_) (fun c_54 => ?_)
          · rw [if_neg c_54]
            refine lv_iconst (v := 0) hx hb d_Model_failing_61 (by decide) ?_
            refine zw_putI X hB fp_Model_85 (fun h => by cases h) 32 (hm 32 _ rfl) rfl d_Model_failing_62 (fun H locs hB => ?_)
            obtain ⟨mi_3, emi_3⟩ : ∃ y, y = zw_up mi 32 0 0 := ⟨_, rfl⟩
            rw [← emi_3] at hB
            refine lv_aload_n hx hb d_Model_failing_65 rfl (lv_at hl 0 rfl) ?_
            refine zw_getI X hB fl_Model_85 32 (hm 32 _ rfl) rfl d_Model_failing_66 ?_
            refine lv_if_le (tgt := 74) hx hb d_Model_failing_69 (by decide) (fun c_69 => ?_) (fun c_69 => ?_)
            · refine lv_aload_n hx hb d_Model_failing_74 rfl (lv_at hl 0 rfl) ?_
              refine zw_getR X hB fl_Model_32 32 (hm 32 _ rfl) rfl d_Model_failing_75 ?_
              refine lv_aload_n hx hb d_Model_failing_78 rfl (lv_at hl 0 rfl) ?_
              refine zw_getI X hB fl_Model_96 32 (hm 32 _ rfl) rfl d_Model_failing_79 ?_
              refine lv_iload_n hx hb d_Model_failing_82 rfl (lv_at hl 1 rfl) ?_
              refine zw_iast X hB 40 (hm 40 _ rfl) (by subst_vars; simpa [zw_up] using h1 c_54) d_Model_failing_83 (fun H locs hB => ?_)
              obtain ⟨mi_4, emi_4⟩ : ∃ y, y = zw_up mi_3 40 (mi_3 32 15).toNatClampNeg w := ⟨_, rfl⟩
              rw [← emi_4] at hB
              refine lv_aload_n hx hb d_Model_failing_84 rfl (lv_at hl 0 rfl) ?_
              refine zw_getR X hB fl_Model_35 32 (hm 32 _ rfl) rfl d_Model_failing_85 ?_
              refine lv_aload_n hx hb d_Model_failing_88 rfl (lv_at hl 0 rfl) ?_
              refine zw_getI X hB fl_Model_96 32 (hm 32 _ rfl) rfl d_Model_failing_89 ?_
              refine lv_iload_n hx hb d_Model_failing_92 rfl (lv_at hl 2 rfl) ?_
              refine zw_iast X hB 41 (hm 41 _ rfl) (by subst_vars; simpa [zw_up] using h1 c_54) d_Model_failing_93 (fun H locs hB => ?_)
              obtain ⟨mi_5, emi_5⟩ : ∃ y, y = zw_up mi_4 41 (mi_4 32 15).toNatClampNeg x := ⟨_, rfl⟩
              rw [← emi_5] at hB
              refine lv_aload_n hx hb d_Model_failing_94 rfl (lv_at hl 0 rfl) ?_
              refine zw_getR X hB fl_Model_38 32 (hm 32 _ rfl) rfl d_Model_failing_95 ?_
              refine lv_aload_n hx hb d_Model_failing_98 rfl (lv_at hl 0 rfl) ?_
              refine zw_getI X hB fl_Model_96 32 (hm 32 _ rfl) rfl d_Model_failing_99 ?_
              refine lv_iload_n hx hb d_Model_failing_102 rfl (lv_at hl 3 rfl) ?_
              refine zw_iast X hB 42 (hm 42 _ rfl) (by subst_vars; simpa [zw_up] using h1 c_54) d_Model_failing_103 (fun H locs hB => ?_)
              obtain ⟨mi_6, emi_6⟩ : ∃ y, y = zw_up mi_5 42 (mi_5 32 15).toNatClampNeg s0 := ⟨_, rfl⟩
              rw [← emi_6] at hB
              refine lv_aload_n hx hb d_Model_failing_104 rfl (lv_at hl 0 rfl) ?_
              refine zw_getR X hB fl_Model_41 32 (hm 32 _ rfl) rfl d_Model_failing_105 ?_
              refine lv_aload_n hx hb d_Model_failing_108 rfl (lv_at hl 0 rfl) ?_
              refine zw_getI X hB fl_Model_96 32 (hm 32 _ rfl) rfl d_Model_failing_109 ?_
              refine lv_iload hx hb d_Model_failing_112 (lv_at hl 4 rfl) ?_
              refine zw_iast X hB 43 (hm 43 _ rfl) (by subst_vars; simpa [zw_up] using h1 c_54) d_Model_failing_114 (fun H locs hB => ?_)
              obtain ⟨mi_7, emi_7⟩ : ∃ y, y = zw_up mi_6 43 (mi_6 32 15).toNatClampNeg t := ⟨_, rfl⟩
              rw [← emi_7] at hB
              refine lv_aload_n hx hb d_Model_failing_115 rfl (lv_at hl 0 rfl) ?_
              refine lv_dup hx hb d_Model_failing_116 rfl ?_
              refine zw_getI X hB fl_Model_96 32 (hm 32 _ rfl) rfl d_Model_failing_117 ?_
              refine lv_iconst (v := 1) hx hb d_Model_failing_120 (by decide) ?_
              refine lv_iadd hx hb d_Model_failing_121 ?_
              refine zw_putI X hB fp_Model_96 (fun h => by cases h) 32 (hm 32 _ rfl) rfl d_Model_failing_122 (fun H locs hB => ?_)
              obtain ⟨mi_8, emi_8⟩ : ∃ y, y = zw_up mi_7 32 15 ((mi_7 32 15) + 1) := ⟨_, rfl⟩
              rw [← emi_8] at hB
              refine lv_aload_n hx hb d_Model_failing_125 rfl (lv_at hl 0 rfl) ?_
              refine zw_getI X hB fl_Model_96 32 (hm 32 _ rfl) rfl d_Model_failing_126 ?_
              exact zc_iret X hr hlocks hB (by subst emi_8; subst emi_7; subst emi_6; subst emi_5; subst emi_4; subst emi_3; rfl) (by subst emi_8; subst emi_7; subst emi_6; subst emi_5; subst emi_4; subst emi_3; rfl) (by subst emi_8; subst emi_7; subst emi_6; subst emi_5; subst emi_4; subst emi_3; rfl) d_Model_failing_129
            · exact absurd (by rw [emi_3, zw_up_self]; decide) c_69
          · rw [if_pos c_54]
            refine lv_iconst (v := 3) hx hb d_Model_failing_57 (by decide) ?_
            refine lv_goto (tgt := 62) hx hb d_Model_failing_58 (by decide) ?_
            refine zw_putI X hB fp_Model_85 (fun h => by cases h) 32 (hm 32 _ rfl) rfl d_Model_failing_62 (fun H locs hB => ?_)
            obtain ⟨mi_9, emi_9⟩ : ∃ y, y = zw_up mi 32 0 3 := ⟨_, rfl⟩
            rw [← emi_9] at hB
            refine lv_aload_n hx hb d_Model_failing_65 rfl (lv_at hl 0 rfl) ?_
            refine zw_getI X hB fl_Model_85 32 (hm 32 _ rfl) rfl d_Model_failing_66 ?_
            refine lv_if_le (tgt := 74) hx hb d_Model_failing_69 (by decide) (fun c_69 => ?_) (fun c_69 => ?_)
            · exact absurd c_69 (by rw [emi_9, zw_up_self]; decide)
            · refine lv_iconst (v := 0) hx hb d_Model_failing_72 (by decide) ?_
              exact zc_iret X hr hlocks hB (by subst emi_9; rfl) (by subst emi_9; rfl) (by subst emi_9; rfl) d_Model_failing_73
        · rw [if_pos c_41]
          refine lv_iconst (v := 2) hx hb d_Model_failing_44 (by decide) ?_
          refine lv_goto (tgt := 62) hx hb d_Model_failing_45 (by decide) ?_
          refine zw_putI X hB fp_Model_85 (fun h => by cases h) 32 (hm 32 _ rfl) rfl d_Model_failing_62 (fun H locs hB => ?_)
          obtain ⟨mi_10, emi_10⟩ : ∃ y, y = zw_up mi 32 0 2 := ⟨_, rfl⟩
          rw [← emi_10] at hB
          refine lv_aload_n hx hb d_Model_failing_65 rfl (lv_at hl 0 rfl) ?_
          refine zw_getI X hB fl_Model_85 32 (hm 32 _ rfl) rfl d_Model_failing_66 ?_
          refine lv_if_le (tgt := 74) hx hb d_Model_failing_69 (by decide) (fun c_69 => ?_) (fun c_69 => ?_)
          · exact absurd c_69 (by rw [emi_10, zw_up_self]; decide)
          · refine lv_iconst (v := 0) hx hb d_Model_failing_72 (by decide) ?_
            exact zc_iret X hr hlocks hB (by subst emi_10; rfl) (by subst emi_10; rfl) (by subst emi_10; rfl) d_Model_failing_73
  · rw [if_pos c_6]
    refine lv_iconst (v := 1) hx hb d_Model_failing_9 (by decide) ?_
    refine lv_goto (tgt := 62) hx hb d_Model_failing_10 (by decide) ?_
    refine zw_putI X hB fp_Model_85 (fun h => by cases h) 32 (hm 32 _ rfl) rfl d_Model_failing_62 (fun H locs hB => ?_)
    obtain ⟨mi_11, emi_11⟩ : ∃ y, y = zw_up mi 32 0 1 := ⟨_, rfl⟩
    rw [← emi_11] at hB
    refine lv_aload_n hx hb d_Model_failing_65 rfl (lv_at hl 0 rfl) ?_
    refine zw_getI X hB fl_Model_85 32 (hm 32 _ rfl) rfl d_Model_failing_66 ?_
    refine lv_if_le (tgt := 74) hx hb d_Model_failing_69 (by decide) (fun c_69 => ?_) (fun c_69 => ?_)
    · exact absurd c_69 (by rw [emi_11, zw_up_self]; decide)
    · refine lv_iconst (v := 0) hx hb d_Model_failing_72 (by decide) ?_
      exact zc_iret X hr hlocks hB (by subst emi_11; rfl) (by subst emi_11; rfl) (by subst emi_11; rfl) d_Model_failing_73

set_option maxHeartbeats 4000000 in
set_option maxRecDepth 100000 in
theorem c_Model_stop {l : Launch} {D : va_G} {cA : Nat → ClassId} {ad : Nat → Nat} {sh : zw_Sh} (hm : ∀ (k : Nat) (q : zw_Sp), shM k = some q → sh k = some q) (z : Nat) (mi : zw_I) (ml : zw_L) (x : Int32) :
    zc_M l D cA Y_Model_stop 1 0 0 ad sh sh z [.ref (ad 32), .int x] mi ml (some (.int ((q_stop mi x).1))) ((q_stop mi x).2) ml z := by
  refine zc_enter (own := R_Model) (by decide) rfl (Nat.le_of_ble_eq_true rfl) ?_
  intro p e s m below meth c X hr hlocks hnm hB ls hl
  have X : zw_C D cA R_Model prog_9_method_9_code 3 p m c s := X
  have hr : meth.sig.returnType = (some FieldType.int) := hr
  have hx := X.1
  have hb := X.2.1
  have hl : lv_has ls 3 [(0, .ref (ad 32)), (1, .int x)] := hl
  unfold q_stop
  refine lv_aload_n hx hb d_Model_stop_0 rfl (lv_at hl 0 rfl) ?_
  refine lv_iload_n hx hb d_Model_stop_1 rfl (lv_at hl 1 rfl) ?_
  refine lv_iconst (v := (-1)) hx hb d_Model_stop_2 (by decide) ?_
  refine lv_icmp_eq (tgt := 14) hx hb d_Model_stop_3 (by decide) (fun c_3 => ?_) (fun c_3 => ?_)
  · rw [if_pos c_3]
    refine lv_iconst (v := 0) hx hb d_Model_stop_14 (by decide) ?_
    refine lv_goto (tgt := 19) hx hb d_Model_stop_15 (by decide) ?_
    refine zw_putI X hB fp_Model_85 (fun h => by cases h) 32 (hm 32 _ rfl) rfl d_Model_stop_19 (fun H locs hB => ?_)
    obtain ⟨mi_1, emi_1⟩ : ∃ y, y = zw_up mi 32 0 0 := ⟨_, rfl⟩
    rw [← emi_1] at hB
    refine lv_aload_n hx hb d_Model_stop_22 rfl (lv_at hl 0 rfl) ?_
    refine zw_getI X hB fl_Model_85 32 (hm 32 _ rfl) rfl d_Model_stop_23 ?_
    refine lv_if_le (tgt := 31) hx hb d_Model_stop_26 (by decide) (fun c_26 => ?_) (fun c_26 => ?_)
    · refine lv_aload_n hx hb d_Model_stop_31 rfl (lv_at hl 0 rfl) ?_
      refine zw_getI X hB fl_Model_99 32 (hm 32 _ rfl) rfl d_Model_stop_32 ?_
      refine lv_istore_n (lv' := [(2, .int (mi_1 32 16)), (0, .ref (ad 32)), (1, .int x)]) hx hb d_Model_stop_35 rfl hl (by decide) rfl (fun ls hl => ?_)
      refine lv_aload_n hx hb d_Model_stop_36 rfl (lv_at hl 1 rfl) ?_
      refine lv_iload_n hx hb d_Model_stop_37 rfl (lv_at hl 2 rfl) ?_
      refine zw_putI X hB fp_Model_99 (fun h => by cases h) 32 (hm 32 _ rfl) rfl d_Model_stop_38 (fun H locs hB => ?_)
      obtain ⟨mi_2, emi_2⟩ : ∃ y, y = zw_up mi_1 32 16 x := ⟨_, rfl⟩
      rw [← emi_2] at hB
      refine lv_iload_n hx hb d_Model_stop_41 rfl (lv_at hl 0 rfl) ?_
      exact zc_iret X hr hlocks hB (by subst emi_2; subst emi_1; rfl) (by subst emi_2; subst emi_1; rfl) (by subst emi_2; subst emi_1; rfl) d_Model_stop_42
    · exact absurd (by rw [emi_1, zw_up_self]; decide) c_26
  · rw [if_neg c_3]
    refine lv_aload_n hx hb d_Model_stop_6 rfl (lv_at hl 0 rfl) ?_
    refine lv_iload_n hx hb d_Model_stop_7 rfl (lv_at hl 1 rfl) ?_
    refine zw_callVr X hB mv_Model_88 32 (hm 32 _ rfl) rfl (c_Model_isShare hm z mi ml x) rfl hl.1 ⟨Nat.le_of_ble_eq_true rfl, Nat.le_of_ble_eq_true rfl⟩ rfl (Nat.le_of_ble_eq_true rfl) ⟨Nat.le_of_ble_eq_true rfl, Nat.le_of_ble_eq_true rfl⟩ d_Model_stop_8 (fun H locs hB => ?_)
    refine lv_if_eq (tgt := 18) hx hb d_Model_stop_11 (by decide) (fun c_11 => ?_) (fun c_11 => ?_)
    · rw [if_pos c_11]
      refine lv_iconst (v := 1) hx hb d_Model_stop_18 (by decide) ?_
      refine zw_putI X hB fp_Model_85 (fun h => by cases h) 32 (hm 32 _ rfl) rfl d_Model_stop_19 (fun H locs hB => ?_)
      obtain ⟨mi_3, emi_3⟩ : ∃ y, y = zw_up mi 32 0 1 := ⟨_, rfl⟩
      rw [← emi_3] at hB
      refine lv_aload_n hx hb d_Model_stop_22 rfl (lv_at hl 0 rfl) ?_
      refine zw_getI X hB fl_Model_85 32 (hm 32 _ rfl) rfl d_Model_stop_23 ?_
      refine lv_if_le (tgt := 31) hx hb d_Model_stop_26 (by decide) (fun c_26 => ?_) (fun c_26 => ?_)
      · exact absurd c_26 (by rw [emi_3, zw_up_self]; decide)
      · refine lv_iconst (v := 0) hx hb d_Model_stop_29 (by decide) ?_
        exact zc_iret X hr hlocks hB (by subst emi_3; rfl) (by subst emi_3; rfl) (by subst emi_3; rfl) d_Model_stop_30
    · rw [if_neg c_11]
      refine lv_iconst (v := 0) hx hb d_Model_stop_14 (by decide) ?_
      refine lv_goto (tgt := 19) hx hb d_Model_stop_15 (by decide) ?_
      refine zw_putI X hB fp_Model_85 (fun h => by cases h) 32 (hm 32 _ rfl) rfl d_Model_stop_19 (fun H locs hB => ?_)
      obtain ⟨mi_4, emi_4⟩ : ∃ y, y = zw_up mi 32 0 0 := ⟨_, rfl⟩
      rw [← emi_4] at hB
      refine lv_aload_n hx hb d_Model_stop_22 rfl (lv_at hl 0 rfl) ?_
      refine zw_getI X hB fl_Model_85 32 (hm 32 _ rfl) rfl d_Model_stop_23 ?_
      refine lv_if_le (tgt := 31) hx hb d_Model_stop_26 (by decide) (fun c_26 => ?_) (fun c_26 => ?_)
      · refine lv_aload_n hx hb d_Model_stop_31 rfl (lv_at hl 0 rfl) ?_
        refine zw_getI X hB fl_Model_99 32 (hm 32 _ rfl) rfl d_Model_stop_32 ?_
        refine lv_istore_n (lv' := [(2, .int (mi_4 32 16)), (0, .ref (ad 32)), (1, .int x)]) hx hb d_Model_stop_35 rfl hl (by decide) rfl (fun ls hl => ?_)
        refine lv_aload_n hx hb d_Model_stop_36 rfl (lv_at hl 1 rfl) ?_
        refine lv_iload_n hx hb d_Model_stop_37 rfl (lv_at hl 2 rfl) ?_
        refine zw_putI X hB fp_Model_99 (fun h => by cases h) 32 (hm 32 _ rfl) rfl d_Model_stop_38 (fun H locs hB => ?_)
        obtain ⟨mi_5, emi_5⟩ : ∃ y, y = zw_up mi_4 32 16 x := ⟨_, rfl⟩
        rw [← emi_5] at hB
        refine lv_iload_n hx hb d_Model_stop_41 rfl (lv_at hl 0 rfl) ?_
        exact zc_iret X hr hlocks hB (by subst emi_5; subst emi_4; rfl) (by subst emi_5; subst emi_4; rfl) (by subst emi_5; subst emi_4; rfl) d_Model_stop_42
      · exact absurd (by rw [emi_4, zw_up_self]; decide) c_26

set_option maxHeartbeats 4000000 in
set_option maxRecDepth 100000 in
theorem c_Model_waitsFor {l : Launch} {D : va_G} {cA : Nat → ClassId} {ad : Nat → Nat} {sh : zw_Sh} (hm : ∀ (k : Nat) (q : zw_Sp), shM k = some q → sh k = some q) (z : Nat) (mi : zw_I) (ml : zw_L) (x : Int32) (h1 : vp_in x 16) (w : Nat) (hw : w ≤ 6) (ew : mi 36 x.toNatClampNeg = nI w) (hat : ∀ k : Nat, k < 6 → vp_in (6 * x + nI k) 96) (ho : ∀ k : Nat, k < 96 → vp_in (mi 38 k) 16) :
    zc_M l D cA Y_Model_waitsFor 0 0 0 ad sh sh z [.ref (ad 32), .int x] mi ml (some (.int (q_waits mi x 7 0))) mi ml z := by
  refine zc_enter (own := R_Model) (by decide) rfl (Nat.le_of_ble_eq_true rfl) ?_
  intro p e s m below meth c X hr hlocks hnm hB ls hl
  have X : zw_C D cA R_Model prog_9_method_10_code 4 p m c s := X
  have hr : meth.sig.returnType = (some FieldType.int) := hr
  have hx := X.1
  have hb := X.2.1
  have hl : lv_has ls 4 [(0, .ref (ad 32)), (1, .int x)] := hl
  have loop : ∀ (f i : Nat)  (H : Heap) (locs : List Loc) (ls : Array Slot), i + f = 7 → i ≤ w → zw_B D cA ad sh (zw_A ad sh z) s.heap mi ml z H locs → lv_has ls 4 [(2, .int (nI i)), (0, .ref (ad 32)), (1, .int x)] →
      zc_W l D cA ad sh sh z [.ref (ad 32), .int x] 0 0 0 (some (.int (q_waits mi x f (nI i)))) mi ml z p e s m below meth c H locs 0 0 (F0 m 2 ls []) := by
    intro f
    induction f with
    | zero =>
      intro i   H locs ls hi h2 hB hl
      omega
    | succ f ih =>
      intro i   H locs ls hi h2 hB hl
      rw [q_waits]
      refine lv_iload_n hx hb d_Model_waitsFor_2 rfl (lv_at hl 0 rfl) ?_
      refine lv_aload_n hx hb d_Model_waitsFor_3 rfl (lv_at hl 1 rfl) ?_
      refine zw_getR X hB fl_Model_20 32 (hm 32 _ rfl) rfl d_Model_waitsFor_4 ?_
      refine lv_iload_n hx hb d_Model_waitsFor_7 rfl (lv_at hl 2 rfl) ?_
      refine zw_iald X hB 36 (hm 36 _ rfl) h1 d_Model_waitsFor_8 ?_
      refine lv_icmp_ge (tgt := 62) hx hb d_Model_waitsFor_9 (by decide) (fun c_9 => ?_) (fun c_9 => ?_)
      · rw [if_pos c_9]
        refine lv_iconst (v := (-1)) hx hb d_Model_waitsFor_62 (by decide) ?_
        exact zc_iret X hr hlocks hB (by rfl) (by rfl) (by rfl) d_Model_waitsFor_63
      · rw [if_neg c_9]
        have hlt : i < w := zn_lt (by omega) (by rw [← ew]; exact c_9)
        have hin := hat i (by omega)
        have ho1 := ho _ (vlt hin)
        refine lv_bipush (v := 6) hx hb d_Model_waitsFor_12 (by decide) ?_
        refine lv_iload_n hx hb d_Model_waitsFor_14 rfl (lv_at hl 2 rfl) ?_
        refine lv_imul hx hb d_Model_waitsFor_15 ?_
        refine lv_iload_n hx hb d_Model_waitsFor_16 rfl (lv_at hl 0 rfl) ?_
        refine lv_iadd hx hb d_Model_waitsFor_17 ?_
        refine lv_istore_n (lv' := [(3, .int ((6 * x) + (nI i))), (2, .int (nI i)), (0, .ref (ad 32)), (1, .int x)]) hx hb d_Model_waitsFor_18 rfl hl (by decide) rfl (fun ls hl => ?_)
        refine lv_aload_n hx hb d_Model_waitsFor_19 rfl (lv_at hl 2 rfl) ?_
        refine zw_getR X hB fl_Model_23 32 (hm 32 _ rfl) rfl d_Model_waitsFor_20 ?_
        refine lv_iload_n hx hb d_Model_waitsFor_23 rfl (lv_at hl 0 rfl) ?_
        refine zw_iald X hB 37 (hm 37 _ rfl) hin d_Model_waitsFor_24 ?_
        refine lv_aload_n hx hb d_Model_waitsFor_25 rfl (lv_at hl 2 rfl) ?_
        refine zw_getR X hB fl_Model_57 32 (hm 32 _ rfl) rfl d_Model_waitsFor_26 ?_
        refine lv_iload_n hx hb d_Model_waitsFor_29 rfl (lv_at hl 3 rfl) ?_
        refine zw_iald X hB 48 (hm 48 _ rfl) h1 d_Model_waitsFor_30 ?_
        refine lv_icmp_ne (tgt := 56) hx hb d_Model_waitsFor_31 (by decide) (fun c_31 => ?_) (fun c_31 => ?_)
        · rw [if_neg c_31]
          refine lv_iinc (v := nI (i + 1)) (lv' := [(2, .int (nI (i + 1))), (3, .int ((6 * x) + (nI i))), (0, .ref (ad 32)), (1, .int x)]) hx hb d_Model_waitsFor_56 hl (k := 1) rfl (nI_1 i) (by decide) rfl (fun ls hl => ?_)
          refine lv_goto (tgt := 2) hx hb d_Model_waitsFor_59 (by decide) ?_
          rw [nI_1 i]
          exact ih (i + 1)   H locs ls (by omega) (by omega) hB (lv_sub hl [0, 2, 3] rfl)
        · rw [if_pos c_31]
          refine lv_aload_n hx hb d_Model_waitsFor_34 rfl (lv_at hl 2 rfl) ?_
          refine zw_getR X hB fl_Model_57 32 (hm 32 _ rfl) rfl d_Model_waitsFor_35 ?_
          refine lv_aload_n hx hb d_Model_waitsFor_38 rfl (lv_at hl 2 rfl) ?_
          refine zw_getR X hB fl_Model_26 32 (hm 32 _ rfl) rfl d_Model_waitsFor_39 ?_
          refine lv_iload_n hx hb d_Model_waitsFor_42 rfl (lv_at hl 0 rfl) ?_
          refine zw_iald X hB 38 (hm 38 _ rfl) hin d_Model_waitsFor_43 ?_
          refine zw_iald X hB 48 (hm 48 _ rfl) ho1 d_Model_waitsFor_44 ?_
          refine lv_aload_n hx hb d_Model_waitsFor_45 rfl (lv_at hl 2 rfl) ?_
          refine zw_getR X hB fl_Model_29 32 (hm 32 _ rfl) rfl d_Model_waitsFor_46 ?_
          refine lv_iload_n hx hb d_Model_waitsFor_49 rfl (lv_at hl 0 rfl) ?_
          refine zw_iald X hB 39 (hm 39 _ rfl) hin d_Model_waitsFor_50 ?_
          refine lv_icmp_ge (tgt := 56) hx hb d_Model_waitsFor_51 (by decide) (fun c_51 => ?_) (fun c_51 => ?_)
          · rw [if_pos c_51]
            refine lv_iinc (v := nI (i + 1)) (lv' := [(2, .int (nI (i + 1))), (3, .int ((6 * x) + (nI i))), (0, .ref (ad 32)), (1, .int x)]) hx hb d_Model_waitsFor_56 hl (k := 1) rfl (nI_1 i) (by decide) rfl (fun ls hl => ?_)
            refine lv_goto (tgt := 2) hx hb d_Model_waitsFor_59 (by decide) ?_
            rw [nI_1 i]
            exact ih (i + 1)   H locs ls (by omega) (by omega) hB (lv_sub hl [0, 2, 3] rfl)
          · rw [if_neg c_51]
            refine lv_iload_n hx hb d_Model_waitsFor_54 rfl (lv_at hl 0 rfl) ?_
            exact zc_iret X hr hlocks hB (by rfl) (by rfl) (by rfl) d_Model_waitsFor_55
  refine lv_iconst (v := 0) hx hb d_Model_waitsFor_0 (by decide) ?_
  refine lv_istore_n (lv' := [(2, .int 0), (0, .ref (ad 32)), (1, .int x)]) hx hb d_Model_waitsFor_1 rfl hl (by decide) rfl (fun ls hl => ?_)
  exact loop 7 0  _ _ ls rfl (by omega) hB (lv_sub hl [0, 1, 2] rfl)

set_option maxHeartbeats 4000000 in
set_option maxRecDepth 100000 in
theorem c_Model_canTake {l : Launch} {D : va_G} {cA : Nat → ClassId} {ad : Nat → Nat} {sh : zw_Sh} (hm : ∀ (k : Nat) (q : zw_Sp), shM k = some q → sh k = some q) (z : Nat) (mi : zw_I) (ml : zw_L) (h1 : vp_in (mi 50 (0 : Int32).toNatClampNeg) 16) :
    zc_M l D cA Y_Model_canTake 0 0 0 ad sh sh z [.ref (ad 32)] mi ml (some (.int (q_canTake mi))) mi ml z := by
  refine zc_enter (own := R_Model) (by decide) rfl (Nat.le_of_ble_eq_true rfl) ?_
  intro p e s m below meth c X hr hlocks hnm hB ls hl
  have X : zw_C D cA R_Model prog_9_method_11_code 1 p m c s := X
  have hr : meth.sig.returnType = (some FieldType.boolean) := hr
  have hx := X.1
  have hb := X.2.1
  have hl : lv_has ls 1 [(0, .ref (ad 32))] := hl
  unfold q_canTake
  refine lv_aload_n hx hb d_Model_canTake_0 rfl (lv_at hl 0 rfl) ?_
  refine zw_getI X hB fl_Model_102 32 (hm 32 _ rfl) rfl d_Model_canTake_1 ?_
  refine lv_if_le (tgt := 34) hx hb d_Model_canTake_4 (by decide) (fun c_4 => ?_) (fun c_4 => ?_)
  · rw [if_pos c_4]
    refine lv_iconst (v := 0) hx hb d_Model_canTake_34 (by decide) ?_
    exact zc_zret X hr hlocks hB (by rfl) (by rfl) (by rfl) (by rfl) d_Model_canTake_35
  · rw [if_neg c_4]
    refine lv_aload_n hx hb d_Model_canTake_7 rfl (lv_at hl 0 rfl) ?_
    refine zw_getI X hB fl_Model_105 32 (hm 32 _ rfl) rfl d_Model_canTake_8 ?_
    refine lv_aload_n hx hb d_Model_canTake_11 rfl (lv_at hl 0 rfl) ?_
    refine zw_getR X hB fl_Model_13 32 (hm 32 _ rfl) rfl d_Model_canTake_12 ?_
    refine lv_aload_n hx hb d_Model_canTake_15 rfl (lv_at hl 0 rfl) ?_
    refine zw_getR X hB fl_Model_63 32 (hm 32 _ rfl) rfl d_Model_canTake_16 ?_
    refine lv_iconst (v := 0) hx hb d_Model_canTake_19 (by decide) ?_
    refine zw_iald X hB 50 (hm 50 _ rfl) (vp_in_nI (n := 0) (by decide) (by decide)) d_Model_canTake_20 ?_
    refine zw_iald X hB 34 (hm 34 _ rfl) h1 d_Model_canTake_21 ?_
    refine lv_iadd hx hb d_Model_canTake_22 ?_
    refine lv_aload_n hx hb d_Model_canTake_23 rfl (lv_at hl 0 rfl) ?_
    refine zw_getI X hB fl_Model_79 32 (hm 32 _ rfl) rfl d_Model_canTake_24 ?_
    refine lv_icmp_gt (tgt := 34) hx hb d_Model_canTake_27 (by decide) (fun c_27 => ?_) (fun c_27 => ?_)
    · rw [if_pos c_27]
      refine lv_iconst (v := 0) hx hb d_Model_canTake_34 (by decide) ?_
      exact zc_zret X hr hlocks hB (by rfl) (by rfl) (by rfl) (by rfl) d_Model_canTake_35
    · rw [if_neg c_27]
      refine lv_iconst (v := 1) hx hb d_Model_canTake_30 (by decide) ?_
      refine lv_goto (tgt := 35) hx hb d_Model_canTake_31 (by decide) ?_
      exact zc_zret X hr hlocks hB (by rfl) (by rfl) (by rfl) (by rfl) d_Model_canTake_35

set_option maxHeartbeats 4000000 in
set_option maxRecDepth 100000 in
theorem c_Model_take {l : Launch} {D : va_G} {cA : Nat → ClassId} {ad : Nat → Nat} {sh : zw_Sh} (hm : ∀ (k : Nat) (q : zw_Sp), shM k = some q → sh k = some q) (z : Nat) (mi : zw_I) (ml : zw_L) (wk : Int32) (hw : vp_in wk 16) (h1 : vp_in (mi 50 (0 : Int32).toNatClampNeg) 16) (q : Nat) (hq : q < 16) (eq : mi 32 23 = nI (q + 1)) :
    zc_M l D cA Y_Model_take 0 0 0 ad sh sh z [.ref (ad 32), .int wk] mi ml none (q_take wk mi) ml z := by
  refine zc_enter (own := R_Model) (by decide) rfl (Nat.le_of_ble_eq_true rfl) ?_
  intro p e s m below meth c X hr hlocks hnm hB ls hl
  have X : zw_C D cA R_Model prog_9_method_12_code 4 p m c s := X
  have hr : meth.sig.returnType = none := hr
  have hx := X.1
  have hb := X.2.1
  have hl : lv_has ls 4 [(0, .ref (ad 32)), (1, .int wk)] := hl
  have loop : ∀ (f i : Nat) (x : Int32) (mi : zw_I) (H : Heap) (locs : List Loc) (ls : Array Slot), i + f = 17 → i ≤ q → mi 32 23 = nI q → vp_in x 16 → zw_B D cA ad sh (zw_A ad sh z) s.heap mi ml z H locs → lv_has ls 4 [(3, .int (nI i)), (2, .int x), (0, .ref (ad 32)), (1, .int wk)] →
      zc_W l D cA ad sh sh z [.ref (ad 32), .int wk] 0 0 0 none (q_take1 wk x (q_shift f (nI i) mi)) ml z p e s m below meth c H locs 0 0 (F0 m 19 ls []) := by
    intro f
    induction f with
    | zero =>
      intro i x mi H locs ls hi h2 eq hx1 hB hl
      omega
    | succ f ih =>
      intro i x mi H locs ls hi h2 eq hx1 hB hl
      rw [q_shift]
      refine lv_iload_n hx hb d_Model_take_19 rfl (lv_at hl 0 rfl) ?_
      refine lv_aload_n hx hb d_Model_take_20 rfl (lv_at hl 2 rfl) ?_
      refine zw_getI X hB fl_Model_102 32 (hm 32 _ rfl) rfl d_Model_take_21 ?_
      refine lv_icmp_ge (tgt := 47) hx hb d_Model_take_24 (by decide) (fun c_24 => ?_) (fun c_24 => ?_)
      · rw [if_pos c_24]
        have hx1 := hx1
        refine lv_aload_n hx hb d_Model_take_47 rfl (lv_at hl 2 rfl) ?_
        refine zw_getR X hB fl_Model_60 32 (hm 32 _ rfl) rfl d_Model_take_48 ?_
        refine lv_iload_n hx hb d_Model_take_51 rfl (lv_at hl 3 rfl) ?_
        refine lv_iload_n hx hb d_Model_take_52 rfl (lv_at hl 1 rfl) ?_
        refine zw_iast X hB 49 (hm 49 _ rfl) hw d_Model_take_53 (fun H locs hB => ?_)
        obtain ⟨mi_1, emi_1⟩ : ∃ y, y = zw_up mi 49 wk.toNatClampNeg x := ⟨_, rfl⟩
        rw [← emi_1] at hB
        refine lv_aload_n hx hb d_Model_take_54 rfl (lv_at hl 2 rfl) ?_
        refine zw_getR X hB fl_Model_69 32 (hm 32 _ rfl) rfl d_Model_take_55 ?_
        refine lv_iload_n hx hb d_Model_take_58 rfl (lv_at hl 1 rfl) ?_
        refine lv_dup2_11 hx hb d_Model_take_59 rfl rfl ?_
        refine zw_iald X hB 52 (hm 52 _ rfl) hx1 d_Model_take_60 ?_
        refine lv_iconst (v := 1) hx hb d_Model_take_61 (by decide) ?_
        refine lv_iadd hx hb d_Model_take_62 ?_
        refine zw_iast X hB 52 (hm 52 _ rfl) hx1 d_Model_take_63 (fun H locs hB => ?_)
        obtain ⟨mi_2, emi_2⟩ : ∃ y, y = zw_up mi_1 52 x.toNatClampNeg ((mi_1 52 x.toNatClampNeg) + 1) := ⟨_, rfl⟩
        rw [← emi_2] at hB
        refine lv_aload_n hx hb d_Model_take_64 rfl (lv_at hl 2 rfl) ?_
        refine lv_dup hx hb d_Model_take_65 rfl ?_
        refine zw_getI X hB fl_Model_105 32 (hm 32 _ rfl) rfl d_Model_take_66 ?_
        refine lv_aload_n hx hb d_Model_take_69 rfl (lv_at hl 2 rfl) ?_
        refine zw_getR X hB fl_Model_13 32 (hm 32 _ rfl) rfl d_Model_take_70 ?_
        refine lv_iload_n hx hb d_Model_take_73 rfl (lv_at hl 1 rfl) ?_
        refine zw_iald X hB 34 (hm 34 _ rfl) hx1 d_Model_take_74 ?_
        refine lv_iadd hx hb d_Model_take_75 ?_
        refine zw_putI X hB fp_Model_105 (fun h => by cases h) 32 (hm 32 _ rfl) rfl d_Model_take_76 (fun H locs hB => ?_)
        obtain ⟨mi_3, emi_3⟩ : ∃ y, y = zw_up mi_2 32 24 ((mi_2 32 24) + (mi_2 34 x.toNatClampNeg)) := ⟨_, rfl⟩
        rw [← emi_3] at hB
        refine lv_aload_n hx hb d_Model_take_79 rfl (lv_at hl 2 rfl) ?_
        refine lv_aload_n hx hb d_Model_take_80 rfl (lv_at hl 2 rfl) ?_
        refine zw_getI X hB fl_Model_105 32 (hm 32 _ rfl) rfl d_Model_take_81 ?_
        refine lv_aload_n hx hb d_Model_take_84 rfl (lv_at hl 2 rfl) ?_
        refine zw_getI X hB fl_Model_108 32 (hm 32 _ rfl) rfl d_Model_take_85 ?_
        refine lv_icmp_le (tgt := 98) hx hb d_Model_take_88 (by decide) (fun c_88 => ?_) (fun c_88 => ?_)
        · have hc88 := c_88
          refine lv_aload_n hx hb d_Model_take_98 rfl (lv_at hl 2 rfl) ?_
          refine zw_getI X hB fl_Model_108 32 (hm 32 _ rfl) rfl d_Model_take_99 ?_
          refine zw_putI X hB fp_Model_108 (fun h => by cases h) 32 (hm 32 _ rfl) rfl d_Model_take_102 (fun H locs hB => ?_)
          obtain ⟨mi_4, emi_4⟩ : ∃ y, y = zw_up mi_3 32 34 (mi_3 32 34) := ⟨_, rfl⟩
          rw [← emi_4] at hB
          exact zc_vret X hr hlocks hB rfl (by subst emi_4; subst emi_3; subst emi_2; subst emi_1; unfold q_take1 q_take2 q_take3 q_take4; rw [if_pos c_88]) rfl d_Model_take_105
        · have hc88 := c_88
          refine lv_aload_n hx hb d_Model_take_91 rfl (lv_at hl 2 rfl) ?_
          refine zw_getI X hB fl_Model_105 32 (hm 32 _ rfl) rfl d_Model_take_92 ?_
          refine lv_goto (tgt := 102) hx hb d_Model_take_95 (by decide) ?_
          refine zw_putI X hB fp_Model_108 (fun h => by cases h) 32 (hm 32 _ rfl) rfl d_Model_take_102 (fun H locs hB => ?_)
          obtain ⟨mi_5, emi_5⟩ : ∃ y, y = zw_up mi_3 32 34 (mi_3 32 24) := ⟨_, rfl⟩
          rw [← emi_5] at hB
          exact zc_vret X hr hlocks hB rfl (by subst emi_5; subst emi_3; subst emi_2; subst emi_1; unfold q_take1 q_take2 q_take3 q_take4; rw [if_neg c_88]) rfl d_Model_take_105
      · rw [if_neg c_24]
        have hlt : i < q := zn_lt (by omega) (by rw [← eq]; exact c_24)
        have hin : vp_in (nI i) 16 := vp_in_nI (by omega) (by decide)
        have hin1 : vp_in (nI i + 1) 16 := by rw [nI_1 i]; exact vp_in_nI (by omega) (by decide)
        refine lv_aload_n hx hb d_Model_take_27 rfl (lv_at hl 2 rfl) ?_
        refine zw_getR X hB fl_Model_63 32 (hm 32 _ rfl) rfl d_Model_take_28 ?_
        refine lv_iload_n hx hb d_Model_take_31 rfl (lv_at hl 0 rfl) ?_
        refine lv_aload_n hx hb d_Model_take_32 rfl (lv_at hl 2 rfl) ?_
        refine zw_getR X hB fl_Model_63 32 (hm 32 _ rfl) rfl d_Model_take_33 ?_
        refine lv_iload_n hx hb d_Model_take_36 rfl (lv_at hl 0 rfl) ?_
        refine lv_iconst (v := 1) hx hb d_Model_take_37 (by decide) ?_
        refine lv_iadd hx hb d_Model_take_38 ?_
        refine zw_iald X hB 50 (hm 50 _ rfl) hin1 d_Model_take_39 ?_
        refine zw_iast X hB 50 (hm 50 _ rfl) hin d_Model_take_40 (fun H locs hB => ?_)
        obtain ⟨mi_6, emi_6⟩ : ∃ y, y = zw_up mi 50 (nI i).toNatClampNeg (mi 50 ((nI i) + 1).toNatClampNeg) := ⟨_, rfl⟩
        rw [← emi_6] at hB
        refine lv_iinc (v := nI (i + 1)) (lv' := [(3, .int (nI (i + 1))), (2, .int x), (0, .ref (ad 32)), (1, .int wk)]) hx hb d_Model_take_41 hl (k := 0) rfl (nI_1 i) (by decide) rfl (fun ls hl => ?_)
        refine lv_goto (tgt := 19) hx hb d_Model_take_44 (by decide) ?_
        subst emi_6
        rw [nI_1 i] at hB ⊢
        exact ih (i + 1) _ _ H locs ls (by omega) (by omega) (by simpa [zw_up] using eq) hx1 hB (lv_sub hl [0, 1, 2, 3] rfl)
  refine lv_aload_n hx hb d_Model_take_0 rfl (lv_at hl 0 rfl) ?_
  refine zw_getR X hB fl_Model_63 32 (hm 32 _ rfl) rfl d_Model_take_1 ?_
  refine lv_iconst (v := 0) hx hb d_Model_take_4 (by decide) ?_
  refine zw_iald X hB 50 (hm 50 _ rfl) (vp_in_nI (n := 0) (by decide) (by decide)) d_Model_take_5 ?_
  refine lv_istore_n (lv' := [(2, .int (mi 50 (0 : Int32).toNatClampNeg)), (0, .ref (ad 32)), (1, .int wk)]) hx hb d_Model_take_6 rfl hl (by decide) rfl (fun ls hl => ?_)
  refine lv_aload_n hx hb d_Model_take_7 rfl (lv_at hl 1 rfl) ?_
  refine lv_dup hx hb d_Model_take_8 rfl ?_
  refine zw_getI X hB fl_Model_102 32 (hm 32 _ rfl) rfl d_Model_take_9 ?_
  refine lv_iconst (v := 1) hx hb d_Model_take_12 (by decide) ?_
  refine lv_isub hx hb d_Model_take_13 ?_
  refine zw_putI X hB fp_Model_102 (fun h => by cases h) 32 (hm 32 _ rfl) rfl d_Model_take_14 (fun H locs hB => ?_)
  obtain ⟨mi_1, emi_1⟩ : ∃ y, y = zw_up mi 32 23 ((mi 32 23) - 1) := ⟨_, rfl⟩
  rw [← emi_1] at hB
  refine lv_iconst (v := 0) hx hb d_Model_take_17 (by decide) ?_
  refine lv_istore_n (lv' := [(3, .int 0), (2, .int (mi 50 (0 : Int32).toNatClampNeg)), (0, .ref (ad 32)), (1, .int wk)]) hx hb d_Model_take_18 rfl hl (by decide) rfl (fun ls hl => ?_)
  subst emi_1
  exact loop 17 0 _ _ _ _ ls rfl (by omega) (by rw [zw_up_self, eq]; exact nI_pred q) h1 hB (lv_sub hl [0, 1, 2, 3] rfl)

set_option maxHeartbeats 4000000 in
set_option maxRecDepth 100000 in
theorem c_Model_fails {l : Launch} {D : va_G} {cA : Nat → ClassId} {ad : Nat → Nat} {sh : zw_Sh} (hm : ∀ (k : Nat) (q : zw_Sp), shM k = some q → sh k = some q) (z : Nat) (mi : zw_I) (ml : zw_L) (w0 : Int32) (x : Int32) (h1 : vp_in x 16) (w : Nat) (hw : w ≤ 8) (ew : mi 32 15 = nI w) :
    zc_M l D cA Y_Model_fails 0 0 0 ad sh sh z [.ref (ad 32), .int w0, .int x] mi ml (some (.int ((q_fails w0 x mi 9 0).1))) ((q_fails w0 x mi 9 0).2) ml z := by
  refine zc_enter (own := R_Model) (by decide) rfl (Nat.le_of_ble_eq_true rfl) ?_
  intro p e s m below meth c X hr hlocks hnm hB ls hl
  have X : zw_C D cA R_Model prog_9_method_13_code 4 p m c s := X
  have hr : meth.sig.returnType = (some FieldType.boolean) := hr
  have hx := X.1
  have hb := X.2.1
  have hl : lv_has ls 4 [(0, .ref (ad 32)), (1, .int w0), (2, .int x)] := hl
  have loop : ∀ (f i : Nat)  (H : Heap) (locs : List Loc) (ls : Array Slot), i + f = 9 → i ≤ w → zw_B D cA ad sh (zw_A ad sh z) s.heap mi ml z H locs → lv_has ls 4 [(3, .int (nI i)), (0, .ref (ad 32)), (1, .int w0), (2, .int x)] →
      zc_W l D cA ad sh sh z [.ref (ad 32), .int w0, .int x] 0 0 0 (some (.int ((q_fails w0 x mi f (nI i)).1))) ((q_fails w0 x mi f (nI i)).2) ml z p e s m below meth c H locs 0 0 (F0 m 2 ls []) := by
    intro f
    induction f with
    | zero =>
      intro i   H locs ls hi h2 hB hl
      omega
    | succ f ih =>
      intro i   H locs ls hi h2 hB hl
      rw [q_fails]
      refine lv_iload_n hx hb d_Model_fails_2 rfl (lv_at hl 0 rfl) ?_
      refine lv_aload_n hx hb d_Model_fails_3 rfl (lv_at hl 1 rfl) ?_
      refine zw_getI X hB fl_Model_96 32 (hm 32 _ rfl) rfl d_Model_fails_4 ?_
      refine lv_icmp_ge (tgt := 72) hx hb d_Model_fails_7 (by decide) (fun c_7 => ?_) (fun c_7 => ?_)
      · rw [if_pos c_7]
        refine lv_iconst (v := 0) hx hb d_Model_fails_72 (by decide) ?_
        exact zc_zret X hr hlocks hB (by rfl) (by rfl) (by rfl) (by rfl) d_Model_fails_73
      · rw [if_neg c_7]
        have hlt : i < w := zn_lt (by omega) (by rw [← ew]; exact c_7)
        have hin : vp_in (nI i) 8 := vp_in_nI (by omega) (by decide)
        refine lv_aload_n hx hb d_Model_fails_10 rfl (lv_at hl 1 rfl) ?_
        refine zw_getR X hB fl_Model_44 32 (hm 32 _ rfl) rfl d_Model_fails_11 ?_
        refine lv_iload_n hx hb d_Model_fails_14 rfl (lv_at hl 0 rfl) ?_
        refine zw_iald X hB 44 (hm 44 _ rfl) hin d_Model_fails_15 ?_
        refine lv_if_le (tgt := 66) hx hb d_Model_fails_16 (by decide) (fun c_16 => ?_) (fun c_16 => ?_)
        · rw [if_pos c_16]
          refine lv_iinc (v := nI (i + 1)) (lv' := [(3, .int (nI (i + 1))), (0, .ref (ad 32)), (1, .int w0), (2, .int x)]) hx hb d_Model_fails_66 hl (k := 0) rfl (nI_1 i) (by decide) rfl (fun ls hl => ?_)
          refine lv_goto (tgt := 2) hx hb d_Model_fails_69 (by decide) ?_
          rw [nI_1 i]
          exact ih (i + 1)   H locs ls (by omega) (by omega) hB (lv_sub hl [0, 1, 2, 3] rfl)
        · rw [if_neg c_16]
          refine lv_aload_n hx hb d_Model_fails_19 rfl (lv_at hl 1 rfl) ?_
          refine zw_getR X hB fl_Model_32 32 (hm 32 _ rfl) rfl d_Model_fails_20 ?_
          refine lv_iload_n hx hb d_Model_fails_23 rfl (lv_at hl 0 rfl) ?_
          refine zw_iald X hB 40 (hm 40 _ rfl) hin d_Model_fails_24 ?_
          refine lv_iload_n hx hb d_Model_fails_25 rfl (lv_at hl 2 rfl) ?_
          refine lv_icmp_ne (tgt := 66) hx hb d_Model_fails_26 (by decide) (fun c_26 => ?_) (fun c_26 => ?_)
          · rw [if_neg c_26]
            refine lv_iinc (v := nI (i + 1)) (lv' := [(3, .int (nI (i + 1))), (0, .ref (ad 32)), (1, .int w0), (2, .int x)]) hx hb d_Model_fails_66 hl (k := 0) rfl (nI_1 i) (by decide) rfl (fun ls hl => ?_)
            refine lv_goto (tgt := 2) hx hb d_Model_fails_69 (by decide) ?_
            rw [nI_1 i]
            exact ih (i + 1)   H locs ls (by omega) (by omega) hB (lv_sub hl [0, 1, 2, 3] rfl)
          · rw [if_pos c_26]
            refine lv_aload_n hx hb d_Model_fails_29 rfl (lv_at hl 1 rfl) ?_
            refine zw_getR X hB fl_Model_35 32 (hm 32 _ rfl) rfl d_Model_fails_30 ?_
            refine lv_iload_n hx hb d_Model_fails_33 rfl (lv_at hl 0 rfl) ?_
            refine zw_iald X hB 41 (hm 41 _ rfl) hin d_Model_fails_34 ?_
            refine lv_iload_n hx hb d_Model_fails_35 rfl (lv_at hl 3 rfl) ?_
            refine lv_icmp_ne (tgt := 66) hx hb d_Model_fails_36 (by decide) (fun c_36 => ?_) (fun c_36 => ?_)
            · rw [if_neg c_36]
              refine lv_iinc (v := nI (i + 1)) (lv' := [(3, .int (nI (i + 1))), (0, .ref (ad 32)), (1, .int w0), (2, .int x)]) hx hb d_Model_fails_66 hl (k := 0) rfl (nI_1 i) (by decide) rfl (fun ls hl => ?_)
              refine lv_goto (tgt := 2) hx hb d_Model_fails_69 (by decide) ?_
              rw [nI_1 i]
              exact ih (i + 1)   H locs ls (by omega) (by omega) hB (lv_sub hl [0, 1, 2, 3] rfl)
            · rw [if_pos c_36]
              refine lv_aload_n hx hb d_Model_fails_39 rfl (lv_at hl 1 rfl) ?_
              refine zw_getR X hB fl_Model_38 32 (hm 32 _ rfl) rfl d_Model_fails_40 ?_
              refine lv_iload_n hx hb d_Model_fails_43 rfl (lv_at hl 0 rfl) ?_
              refine zw_iald X hB 42 (hm 42 _ rfl) hin d_Model_fails_44 ?_
              refine lv_aload_n hx hb d_Model_fails_45 rfl (lv_at hl 1 rfl) ?_
              refine zw_getR X hB fl_Model_57 32 (hm 32 _ rfl) rfl d_Model_fails_46 ?_
              refine lv_iload_n hx hb d_Model_fails_49 rfl (lv_at hl 3 rfl) ?_
              refine zw_iald X hB 48 (hm 48 _ rfl) h1 d_Model_fails_50 ?_
              refine lv_icmp_ne (tgt := 66) hx hb d_Model_fails_51 (by decide) (fun c_51 => ?_) (fun c_51 => ?_)
              · rw [if_neg c_51]
                refine lv_iinc (v := nI (i + 1)) (lv' := [(3, .int (nI (i + 1))), (0, .ref (ad 32)), (1, .int w0), (2, .int x)]) hx hb d_Model_fails_66 hl (k := 0) rfl (nI_1 i) (by decide) rfl (fun ls hl => ?_)
                refine lv_goto (tgt := 2) hx hb d_Model_fails_69 (by decide) ?_
                rw [nI_1 i]
                exact ih (i + 1)   H locs ls (by omega) (by omega) hB (lv_sub hl [0, 1, 2, 3] rfl)
              · rw [if_pos c_51]
                refine lv_aload_n hx hb d_Model_fails_54 rfl (lv_at hl 1 rfl) ?_
                refine zw_getR X hB fl_Model_44 32 (hm 32 _ rfl) rfl d_Model_fails_55 ?_
                refine lv_iload_n hx hb d_Model_fails_58 rfl (lv_at hl 0 rfl) ?_
                refine lv_dup2_11 hx hb d_Model_fails_59 rfl rfl ?_
                refine zw_iald X hB 44 (hm 44 _ rfl) hin d_Model_fails_60 ?_
                refine lv_iconst (v := 1) hx hb d_Model_fails_61 (by decide) ?_
                refine lv_isub hx hb d_Model_fails_62 ?_
                refine zw_iast X hB 44 (hm 44 _ rfl) hin d_Model_fails_63 (fun H locs hB => ?_)
                obtain ⟨mi_1, emi_1⟩ : ∃ y, y = zw_up mi 44 (nI i).toNatClampNeg ((mi 44 (nI i).toNatClampNeg) - 1) := ⟨_, rfl⟩
                rw [← emi_1] at hB
                refine lv_iconst (v := 1) hx hb d_Model_fails_64 (by decide) ?_
                exact zc_zret X hr hlocks hB (by rfl) (by subst emi_1; rfl) (by subst emi_1; rfl) (by subst emi_1; rfl) d_Model_fails_65
  refine lv_iconst (v := 0) hx hb d_Model_fails_0 (by decide) ?_
  refine lv_istore_n (lv' := [(3, .int 0), (0, .ref (ad 32)), (1, .int w0), (2, .int x)]) hx hb d_Model_fails_1 rfl hl (by decide) rfl (fun ls hl => ?_)
  exact loop 9 0  _ _ ls rfl (by omega) hB (lv_sub hl [0, 1, 2, 3] rfl)

set_option maxHeartbeats 4000000 in
set_option maxRecDepth 100000 in
theorem c_Model_isFinished {l : Launch} {D : va_G} {cA : Nat → ClassId} {ad : Nat → Nat} {sh : zw_Sh} (hm : ∀ (k : Nat) (q : zw_Sp), shM k = some q → sh k = some q) (z : Nat) (mi : zw_I) (ml : zw_L) (x : Int32) (h1 : vp_in x 16) :
    zc_M l D cA Y_Model_isFinished 0 0 0 ad sh sh z [.ref (ad 32), .int x] mi ml (some (.int (q_isFin mi x))) mi ml z := by
  refine zc_enter (own := R_Model) (by decide) rfl (Nat.le_of_ble_eq_true rfl) ?_
  intro p e s m below meth c X hr hlocks hnm hB ls hl
  have X : zw_C D cA R_Model prog_9_method_16_code 2 p m c s := X
  have hr : meth.sig.returnType = (some FieldType.boolean) := hr
  have hx := X.1
  have hb := X.2.1
  have hl : lv_has ls 2 [(0, .ref (ad 32)), (1, .int x)] := hl
  unfold q_isFin
  refine lv_aload_n hx hb d_Model_isFinished_0 rfl (lv_at hl 0 rfl) ?_
  refine zw_getR X hB fl_Model_57 32 (hm 32 _ rfl) rfl d_Model_isFinished_1 ?_
  refine lv_iload_n hx hb d_Model_isFinished_4 rfl (lv_at hl 1 rfl) ?_
  refine zw_iald X hB 48 (hm 48 _ rfl) h1 d_Model_isFinished_5 ?_
  refine lv_aload_n hx hb d_Model_isFinished_6 rfl (lv_at hl 0 rfl) ?_
  refine zw_getR X hB fl_Model_7 32 (hm 32 _ rfl) rfl d_Model_isFinished_7 ?_
  refine lv_iload_n hx hb d_Model_isFinished_10 rfl (lv_at hl 1 rfl) ?_
  refine zw_iald X hB 33 (hm 33 _ rfl) h1 d_Model_isFinished_11 ?_
  refine lv_icmp_ne (tgt := 19) hx hb d_Model_isFinished_12 (by decide) (fun c_12 => ?_) (fun c_12 => ?_)
  · rw [if_neg c_12]
    refine lv_iconst (v := 0) hx hb d_Model_isFinished_19 (by decide) ?_
    exact zc_zret X hr hlocks hB (by rfl) (by rfl) (by rfl) (by rfl) d_Model_isFinished_20
  · rw [if_pos c_12]
    refine lv_iconst (v := 1) hx hb d_Model_isFinished_15 (by decide) ?_
    refine lv_goto (tgt := 20) hx hb d_Model_isFinished_16 (by decide) ?_
    exact zc_zret X hr hlocks hB (by rfl) (by rfl) (by rfl) (by rfl) d_Model_isFinished_20
