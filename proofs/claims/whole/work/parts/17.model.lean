abbrev Y_Model_isStuck : zc_Y := (⟨R_Model, "isStuck", "(I)Z"⟩, prog_9_method_17_code, 4, (some FieldType.boolean))
abbrev Y_Model_ending : zc_Y := (⟨R_Model, "ending", "(I)I"⟩, prog_9_method_18_code, 2, (some FieldType.int))
abbrev Y_Model_begin : zc_Y := (⟨R_Model, "begin", "(I)V"⟩, prog_9_method_19_code, 3, none)
abbrev Y_Model_at : zc_Y := (⟨R_Model, "at", "(I)J"⟩, prog_9_method_21_code, 2, (some FieldType.long))
abbrev Y_Model_order : zc_Y := (⟨R_Model, "order", "(I)I"⟩, prog_9_method_22_code, 2, (some FieldType.int))
abbrev Y_Model_begun : zc_Y := (⟨R_Model, "begun", "(I)I"⟩, prog_9_method_23_code, 2, (some FieldType.int))
abbrev Y_Model_waited : zc_Y := (⟨R_Model, "waited", "(II)I"⟩, prog_9_method_24_code, 3, (some FieldType.int))
abbrev Y_Model_told : zc_Y := (⟨R_Model, "told", "(I)I"⟩, prog_9_method_25_code, 4, (some FieldType.int))
abbrev Y_Model_clear : zc_Y := (⟨R_Model, "clear", "()V"⟩, prog_9_method_26_code, 2, none)
theorem d_Model_isStuck_0 : decode prog_9_method_17_code 0 = .ok (.iconst 1, 1) := by decide +kernel
theorem d_Model_isStuck_1 : decode prog_9_method_17_code 1 = .ok (.istore_n 2, 1) := by decide +kernel
theorem d_Model_isStuck_2 : decode prog_9_method_17_code 2 = .ok (.iconst 0, 1) := by decide +kernel
theorem d_Model_isStuck_3 : decode prog_9_method_17_code 3 = .ok (.istore_n 3, 1) := by decide +kernel
theorem d_Model_isStuck_4 : decode prog_9_method_17_code 4 = .ok (.iload_n 3, 1) := by decide +kernel
theorem d_Model_isStuck_5 : decode prog_9_method_17_code 5 = .ok (.iload_n 1, 1) := by decide +kernel
theorem d_Model_isStuck_6 : decode prog_9_method_17_code 6 = .ok (.if_icmp .ge 63, 3) := by decide +kernel
theorem d_Model_isStuck_9 : decode prog_9_method_17_code 9 = .ok (.iload_n 2, 1) := by decide +kernel
theorem d_Model_isStuck_10 : decode prog_9_method_17_code 10 = .ok (.ifCond .eq 59, 3) := by decide +kernel
theorem d_Model_isStuck_13 : decode prog_9_method_17_code 13 = .ok (.aload_n 0, 1) := by decide +kernel
theorem d_Model_isStuck_14 : decode prog_9_method_17_code 14 = .ok (.getfield 60, 3) := by decide +kernel
theorem d_Model_isStuck_17 : decode prog_9_method_17_code 17 = .ok (.iload_n 3, 1) := by decide +kernel
theorem d_Model_isStuck_18 : decode prog_9_method_17_code 18 = .ok (.iaload, 1) := by decide +kernel
theorem d_Model_isStuck_19 : decode prog_9_method_17_code 19 = .ok (.bipush (-2), 2) := by decide +kernel
theorem d_Model_isStuck_21 : decode prog_9_method_17_code 21 = .ok (.if_icmp .eq 36, 3) := by decide +kernel
theorem d_Model_isStuck_24 : decode prog_9_method_17_code 24 = .ok (.aload_n 0, 1) := by decide +kernel
theorem d_Model_isStuck_25 : decode prog_9_method_17_code 25 = .ok (.getfield 60, 3) := by decide +kernel
theorem d_Model_isStuck_28 : decode prog_9_method_17_code 28 = .ok (.iload_n 3, 1) := by decide +kernel
theorem d_Model_isStuck_29 : decode prog_9_method_17_code 29 = .ok (.iaload, 1) := by decide +kernel
theorem d_Model_isStuck_30 : decode prog_9_method_17_code 30 = .ok (.iconst (-1), 1) := by decide +kernel
theorem d_Model_isStuck_31 : decode prog_9_method_17_code 31 = .ok (.if_icmp .ne 13, 3) := by decide +kernel
theorem d_Model_isStuck_34 : decode prog_9_method_17_code 34 = .ok (.aload_n 0, 1) := by decide +kernel
theorem d_Model_isStuck_35 : decode prog_9_method_17_code 35 = .ok (.invokevirtual 119, 3) := by decide +kernel
theorem d_Model_isStuck_38 : decode prog_9_method_17_code 38 = .ok (.ifCond .ne 23, 3) := by decide +kernel
theorem d_Model_isStuck_41 : decode prog_9_method_17_code 41 = .ok (.goto 16, 3) := by decide +kernel
theorem d_Model_isStuck_44 : decode prog_9_method_17_code 44 = .ok (.aload_n 0, 1) := by decide +kernel
theorem d_Model_isStuck_45 : decode prog_9_method_17_code 45 = .ok (.aload_n 0, 1) := by decide +kernel
theorem d_Model_isStuck_46 : decode prog_9_method_17_code 46 = .ok (.getfield 60, 3) := by decide +kernel
theorem d_Model_isStuck_49 : decode prog_9_method_17_code 49 = .ok (.iload_n 3, 1) := by decide +kernel
theorem d_Model_isStuck_50 : decode prog_9_method_17_code 50 = .ok (.iaload, 1) := by decide +kernel
theorem d_Model_isStuck_51 : decode prog_9_method_17_code 51 = .ok (.invokevirtual 130, 3) := by decide +kernel
theorem d_Model_isStuck_54 : decode prog_9_method_17_code 54 = .ok (.ifCond .lt 7, 3) := by decide +kernel
theorem d_Model_isStuck_57 : decode prog_9_method_17_code 57 = .ok (.iconst 1, 1) := by decide +kernel
theorem d_Model_isStuck_58 : decode prog_9_method_17_code 58 = .ok (.goto 4, 3) := by decide +kernel
theorem d_Model_isStuck_61 : decode prog_9_method_17_code 61 = .ok (.iconst 0, 1) := by decide +kernel
theorem d_Model_isStuck_62 : decode prog_9_method_17_code 62 = .ok (.istore_n 2, 1) := by decide +kernel
theorem d_Model_isStuck_63 : decode prog_9_method_17_code 63 = .ok (.iinc 3 1, 3) := by decide +kernel
theorem d_Model_isStuck_66 : decode prog_9_method_17_code 66 = .ok (.goto (-62), 3) := by decide +kernel
theorem d_Model_isStuck_69 : decode prog_9_method_17_code 69 = .ok (.iload_n 2, 1) := by decide +kernel
theorem d_Model_isStuck_70 : decode prog_9_method_17_code 70 = .ok (.ireturn, 1) := by decide +kernel
theorem d_Model_ending_0 : decode prog_9_method_18_code 0 = .ok (.aload_n 0, 1) := by decide +kernel
theorem d_Model_ending_1 : decode prog_9_method_18_code 1 = .ok (.getfield 116, 3) := by decide +kernel
theorem d_Model_ending_4 : decode prog_9_method_18_code 4 = .ok (.aload_n 0, 1) := by decide +kernel
theorem d_Model_ending_5 : decode prog_9_method_18_code 5 = .ok (.getfield 75, 3) := by decide +kernel
theorem d_Model_ending_8 : decode prog_9_method_18_code 8 = .ok (.if_icmp .ne 7, 3) := by decide +kernel
theorem d_Model_ending_11 : decode prog_9_method_18_code 11 = .ok (.iconst 0, 1) := by decide +kernel
theorem d_Model_ending_12 : decode prog_9_method_18_code 12 = .ok (.goto 66, 3) := by decide +kernel
theorem d_Model_ending_15 : decode prog_9_method_18_code 15 = .ok (.aload_n 0, 1) := by decide +kernel
theorem d_Model_ending_16 : decode prog_9_method_18_code 16 = .ok (.getfield 99, 3) := by decide +kernel
theorem d_Model_ending_19 : decode prog_9_method_18_code 19 = .ok (.iconst (-1), 1) := by decide +kernel
theorem d_Model_ending_20 : decode prog_9_method_18_code 20 = .ok (.if_icmp .eq 18, 3) := by decide +kernel
theorem d_Model_ending_23 : decode prog_9_method_18_code 23 = .ok (.aload_n 0, 1) := by decide +kernel
theorem d_Model_ending_24 : decode prog_9_method_18_code 24 = .ok (.aload_n 0, 1) := by decide +kernel
theorem d_Model_ending_25 : decode prog_9_method_18_code 25 = .ok (.getfield 99, 3) := by decide +kernel
theorem d_Model_ending_28 : decode prog_9_method_18_code 28 = .ok (.invokevirtual 148, 3) := by decide +kernel
theorem d_Model_ending_31 : decode prog_9_method_18_code 31 = .ok (.ifCond .eq 7, 3) := by decide +kernel
theorem d_Model_ending_34 : decode prog_9_method_18_code 34 = .ok (.iconst 1, 1) := by decide +kernel
theorem d_Model_ending_35 : decode prog_9_method_18_code 35 = .ok (.goto 43, 3) := by decide +kernel
theorem d_Model_ending_38 : decode prog_9_method_18_code 38 = .ok (.aload_n 0, 1) := by decide +kernel
theorem d_Model_ending_39 : decode prog_9_method_18_code 39 = .ok (.getfield 141, 3) := by decide +kernel
theorem d_Model_ending_42 : decode prog_9_method_18_code 42 = .ok (.ifCond .ne 7, 3) := by decide +kernel
theorem d_Model_ending_45 : decode prog_9_method_18_code 45 = .ok (.iconst (-1), 1) := by decide +kernel
theorem d_Model_ending_46 : decode prog_9_method_18_code 46 = .ok (.goto 32, 3) := by decide +kernel
theorem d_Model_ending_49 : decode prog_9_method_18_code 49 = .ok (.aload_n 0, 1) := by decide +kernel
theorem d_Model_ending_50 : decode prog_9_method_18_code 50 = .ok (.iload_n 1, 1) := by decide +kernel
theorem d_Model_ending_51 : decode prog_9_method_18_code 51 = .ok (.invokevirtual 151, 3) := by decide +kernel
theorem d_Model_ending_54 : decode prog_9_method_18_code 54 = .ok (.ifCond .eq 8, 3) := by decide +kernel
theorem d_Model_ending_57 : decode prog_9_method_18_code 57 = .ok (.bipush (-2), 2) := by decide +kernel
theorem d_Model_ending_59 : decode prog_9_method_18_code 59 = .ok (.goto 19, 3) := by decide +kernel
theorem d_Model_ending_62 : decode prog_9_method_18_code 62 = .ok (.aload_n 0, 1) := by decide +kernel
theorem d_Model_ending_63 : decode prog_9_method_18_code 63 = .ok (.getfield 154, 3) := by decide +kernel
theorem d_Model_ending_66 : decode prog_9_method_18_code 66 = .ok (.sipush 20000, 3) := by decide +kernel
theorem d_Model_ending_69 : decode prog_9_method_18_code 69 = .ok (.if_icmp .ne 8, 3) := by decide +kernel
theorem d_Model_ending_72 : decode prog_9_method_18_code 72 = .ok (.bipush (-3), 2) := by decide +kernel
theorem d_Model_ending_74 : decode prog_9_method_18_code 74 = .ok (.goto 4, 3) := by decide +kernel
theorem d_Model_ending_77 : decode prog_9_method_18_code 77 = .ok (.iconst 2, 1) := by decide +kernel
theorem d_Model_ending_78 : decode prog_9_method_18_code 78 = .ok (.ireturn, 1) := by decide +kernel
theorem d_Model_begin_0 : decode prog_9_method_19_code 0 = .ok (.iconst 0, 1) := by decide +kernel
theorem d_Model_begin_1 : decode prog_9_method_19_code 1 = .ok (.istore_n 2, 1) := by decide +kernel
theorem d_Model_begin_2 : decode prog_9_method_19_code 2 = .ok (.iload_n 2, 1) := by decide +kernel
theorem d_Model_begin_3 : decode prog_9_method_19_code 3 = .ok (.aload_n 0, 1) := by decide +kernel
theorem d_Model_begin_4 : decode prog_9_method_19_code 4 = .ok (.getfield 75, 3) := by decide +kernel
theorem d_Model_begin_7 : decode prog_9_method_19_code 7 = .ok (.if_icmp .ge 45, 3) := by decide +kernel
theorem d_Model_begin_10 : decode prog_9_method_19_code 10 = .ok (.aload_n 0, 1) := by decide +kernel
theorem d_Model_begin_11 : decode prog_9_method_19_code 11 = .ok (.getfield 57, 3) := by decide +kernel
theorem d_Model_begin_14 : decode prog_9_method_19_code 14 = .ok (.iload_n 2, 1) := by decide +kernel
theorem d_Model_begin_15 : decode prog_9_method_19_code 15 = .ok (.iconst 0, 1) := by decide +kernel
theorem d_Model_begin_16 : decode prog_9_method_19_code 16 = .ok (.iastore, 1) := by decide +kernel
theorem d_Model_begin_17 : decode prog_9_method_19_code 17 = .ok (.aload_n 0, 1) := by decide +kernel
theorem d_Model_begin_18 : decode prog_9_method_19_code 18 = .ok (.getfield 69, 3) := by decide +kernel
theorem d_Model_begin_21 : decode prog_9_method_19_code 21 = .ok (.iload_n 2, 1) := by decide +kernel
theorem d_Model_begin_22 : decode prog_9_method_19_code 22 = .ok (.iconst 0, 1) := by decide +kernel
theorem d_Model_begin_23 : decode prog_9_method_19_code 23 = .ok (.iastore, 1) := by decide +kernel
theorem d_Model_begin_24 : decode prog_9_method_19_code 24 = .ok (.aload_n 0, 1) := by decide +kernel
theorem d_Model_begin_25 : decode prog_9_method_19_code 25 = .ok (.getfield 63, 3) := by decide +kernel
theorem d_Model_begin_28 : decode prog_9_method_19_code 28 = .ok (.iload_n 2, 1) := by decide +kernel
theorem d_Model_begin_29 : decode prog_9_method_19_code 29 = .ok (.iload_n 2, 1) := by decide +kernel
theorem d_Model_begin_30 : decode prog_9_method_19_code 30 = .ok (.iastore, 1) := by decide +kernel
theorem d_Model_begin_31 : decode prog_9_method_19_code 31 = .ok (.aload_n 0, 1) := by decide +kernel
theorem d_Model_begin_32 : decode prog_9_method_19_code 32 = .ok (.getfield 54, 3) := by decide +kernel
theorem d_Model_begin_35 : decode prog_9_method_19_code 35 = .ok (.bipush 21, 2) := by decide +kernel
theorem d_Model_begin_37 : decode prog_9_method_19_code 37 = .ok (.iload_n 2, 1) := by decide +kernel
theorem d_Model_begin_38 : decode prog_9_method_19_code 38 = .ok (.imul, 1) := by decide +kernel
theorem d_Model_begin_39 : decode prog_9_method_19_code 39 = .ok (.aload_n 0, 1) := by decide +kernel
theorem d_Model_begin_40 : decode prog_9_method_19_code 40 = .ok (.getfield 16, 3) := by decide +kernel
theorem d_Model_begin_43 : decode prog_9_method_19_code 43 = .ok (.iload_n 2, 1) := by decide +kernel
theorem d_Model_begin_44 : decode prog_9_method_19_code 44 = .ok (.laload, 1) := by decide +kernel
theorem d_Model_begin_45 : decode prog_9_method_19_code 45 = .ok (.lastore, 1) := by decide +kernel
theorem d_Model_begin_46 : decode prog_9_method_19_code 46 = .ok (.iinc 2 1, 3) := by decide +kernel
theorem d_Model_begin_49 : decode prog_9_method_19_code 49 = .ok (.goto (-47), 3) := by decide +kernel
theorem d_Model_begin_52 : decode prog_9_method_19_code 52 = .ok (.iconst 0, 1) := by decide +kernel
theorem d_Model_begin_53 : decode prog_9_method_19_code 53 = .ok (.istore_n 2, 1) := by decide +kernel
theorem d_Model_begin_54 : decode prog_9_method_19_code 54 = .ok (.iload_n 2, 1) := by decide +kernel
theorem d_Model_begin_55 : decode prog_9_method_19_code 55 = .ok (.sipush 256, 3) := by decide +kernel
theorem d_Model_begin_58 : decode prog_9_method_19_code 58 = .ok (.if_icmp .ge 16, 3) := by decide +kernel
theorem d_Model_begin_61 : decode prog_9_method_19_code 61 = .ok (.aload_n 0, 1) := by decide +kernel
theorem d_Model_begin_62 : decode prog_9_method_19_code 62 = .ok (.getfield 72, 3) := by decide +kernel
theorem d_Model_begin_65 : decode prog_9_method_19_code 65 = .ok (.iload_n 2, 1) := by decide +kernel
theorem d_Model_begin_66 : decode prog_9_method_19_code 66 = .ok (.iconst 0, 1) := by decide +kernel
theorem d_Model_begin_67 : decode prog_9_method_19_code 67 = .ok (.iastore, 1) := by decide +kernel
theorem d_Model_begin_68 : decode prog_9_method_19_code 68 = .ok (.iinc 2 1, 3) := by decide +kernel
theorem d_Model_begin_71 : decode prog_9_method_19_code 71 = .ok (.goto (-17), 3) := by decide +kernel
theorem d_Model_begin_74 : decode prog_9_method_19_code 74 = .ok (.iconst 0, 1) := by decide +kernel
theorem d_Model_begin_75 : decode prog_9_method_19_code 75 = .ok (.istore_n 2, 1) := by decide +kernel
theorem d_Model_begin_76 : decode prog_9_method_19_code 76 = .ok (.iload_n 2, 1) := by decide +kernel
theorem d_Model_begin_77 : decode prog_9_method_19_code 77 = .ok (.iload_n 1, 1) := by decide +kernel
theorem d_Model_begin_78 : decode prog_9_method_19_code 78 = .ok (.if_icmp .ge 16, 3) := by decide +kernel
theorem d_Model_begin_81 : decode prog_9_method_19_code 81 = .ok (.aload_n 0, 1) := by decide +kernel
theorem d_Model_begin_82 : decode prog_9_method_19_code 82 = .ok (.getfield 60, 3) := by decide +kernel
theorem d_Model_begin_85 : decode prog_9_method_19_code 85 = .ok (.iload_n 2, 1) := by decide +kernel
theorem d_Model_begin_86 : decode prog_9_method_19_code 86 = .ok (.iconst (-1), 1) := by decide +kernel
theorem d_Model_begin_87 : decode prog_9_method_19_code 87 = .ok (.iastore, 1) := by decide +kernel
theorem d_Model_begin_88 : decode prog_9_method_19_code 88 = .ok (.iinc 2 1, 3) := by decide +kernel
theorem d_Model_begin_91 : decode prog_9_method_19_code 91 = .ok (.goto (-15), 3) := by decide +kernel
theorem d_Model_begin_94 : decode prog_9_method_19_code 94 = .ok (.iconst 0, 1) := by decide +kernel
theorem d_Model_begin_95 : decode prog_9_method_19_code 95 = .ok (.istore_n 2, 1) := by decide +kernel
theorem d_Model_begin_96 : decode prog_9_method_19_code 96 = .ok (.iload_n 2, 1) := by decide +kernel
theorem d_Model_begin_97 : decode prog_9_method_19_code 97 = .ok (.aload_n 0, 1) := by decide +kernel
theorem d_Model_begin_98 : decode prog_9_method_19_code 98 = .ok (.getfield 96, 3) := by decide +kernel
theorem d_Model_begin_101 : decode prog_9_method_19_code 101 = .ok (.if_icmp .ge 21, 3) := by decide +kernel
theorem d_Model_begin_104 : decode prog_9_method_19_code 104 = .ok (.aload_n 0, 1) := by decide +kernel
theorem d_Model_begin_105 : decode prog_9_method_19_code 105 = .ok (.getfield 44, 3) := by decide +kernel
theorem d_Model_begin_108 : decode prog_9_method_19_code 108 = .ok (.iload_n 2, 1) := by decide +kernel
theorem d_Model_begin_109 : decode prog_9_method_19_code 109 = .ok (.aload_n 0, 1) := by decide +kernel
theorem d_Model_begin_110 : decode prog_9_method_19_code 110 = .ok (.getfield 41, 3) := by decide +kernel
theorem d_Model_begin_113 : decode prog_9_method_19_code 113 = .ok (.iload_n 2, 1) := by decide +kernel
theorem d_Model_begin_114 : decode prog_9_method_19_code 114 = .ok (.iaload, 1) := by decide +kernel
theorem d_Model_begin_115 : decode prog_9_method_19_code 115 = .ok (.iastore, 1) := by decide +kernel
theorem d_Model_begin_116 : decode prog_9_method_19_code 116 = .ok (.iinc 2 1, 3) := by decide +kernel
theorem d_Model_begin_119 : decode prog_9_method_19_code 119 = .ok (.goto (-23), 3) := by decide +kernel
theorem d_Model_begin_122 : decode prog_9_method_19_code 122 = .ok (.aload_n 0, 1) := by decide +kernel
theorem d_Model_begin_123 : decode prog_9_method_19_code 123 = .ok (.aload_n 0, 1) := by decide +kernel
theorem d_Model_begin_124 : decode prog_9_method_19_code 124 = .ok (.getfield 75, 3) := by decide +kernel
theorem d_Model_begin_127 : decode prog_9_method_19_code 127 = .ok (.putfield 102, 3) := by decide +kernel
theorem d_Model_begin_130 : decode prog_9_method_19_code 130 = .ok (.aload_n 0, 1) := by decide +kernel
theorem d_Model_begin_131 : decode prog_9_method_19_code 131 = .ok (.iconst 0, 1) := by decide +kernel
theorem d_Model_begin_132 : decode prog_9_method_19_code 132 = .ok (.putfield 105, 3) := by decide +kernel
theorem d_Model_begin_135 : decode prog_9_method_19_code 135 = .ok (.aload_n 0, 1) := by decide +kernel
theorem d_Model_begin_136 : decode prog_9_method_19_code 136 = .ok (.iload_n 1, 1) := by decide +kernel
theorem d_Model_begin_137 : decode prog_9_method_19_code 137 = .ok (.putfield 141, 3) := by decide +kernel
theorem d_Model_begin_140 : decode prog_9_method_19_code 140 = .ok (.aload_n 0, 1) := by decide +kernel
theorem d_Model_begin_141 : decode prog_9_method_19_code 141 = .ok (.iconst 0, 1) := by decide +kernel
theorem d_Model_begin_142 : decode prog_9_method_19_code 142 = .ok (.putfield 116, 3) := by decide +kernel
theorem d_Model_begin_145 : decode prog_9_method_19_code 145 = .ok (.aload_n 0, 1) := by decide +kernel
theorem d_Model_begin_146 : decode prog_9_method_19_code 146 = .ok (.iconst 0, 1) := by decide +kernel
theorem d_Model_begin_147 : decode prog_9_method_19_code 147 = .ok (.putfield 154, 3) := by decide +kernel
theorem d_Model_begin_150 : decode prog_9_method_19_code 150 = .ok (.aload_n 0, 1) := by decide +kernel
theorem d_Model_begin_151 : decode prog_9_method_19_code 151 = .ok (.iconst 0, 1) := by decide +kernel
theorem d_Model_begin_152 : decode prog_9_method_19_code 152 = .ok (.putfield 127, 3) := by decide +kernel
theorem d_Model_begin_155 : decode prog_9_method_19_code 155 = .ok (.aload_n 0, 1) := by decide +kernel
theorem d_Model_begin_156 : decode prog_9_method_19_code 156 = .ok (.iconst 0, 1) := by decide +kernel
theorem d_Model_begin_157 : decode prog_9_method_19_code 157 = .ok (.putfield 134, 3) := by decide +kernel
theorem d_Model_begin_160 : decode prog_9_method_19_code 160 = .ok (.aload_n 0, 1) := by decide +kernel
theorem d_Model_begin_161 : decode prog_9_method_19_code 161 = .ok (.iconst 0, 1) := by decide +kernel
theorem d_Model_begin_162 : decode prog_9_method_19_code 162 = .ok (.putfield 113, 3) := by decide +kernel
theorem d_Model_begin_165 : decode prog_9_method_19_code 165 = .ok (.aload_n 0, 1) := by decide +kernel
theorem d_Model_begin_166 : decode prog_9_method_19_code 166 = .ok (.iconst 0, 1) := by decide +kernel
theorem d_Model_begin_167 : decode prog_9_method_19_code 167 = .ok (.putfield 108, 3) := by decide +kernel
theorem d_Model_begin_170 : decode prog_9_method_19_code 170 = .ok (.return_, 1) := by decide +kernel
theorem d_Model_at_0 : decode prog_9_method_21_code 0 = .ok (.aload_n 0, 1) := by decide +kernel
theorem d_Model_at_1 : decode prog_9_method_21_code 1 = .ok (.aload_n 0, 1) := by decide +kernel
theorem d_Model_at_2 : decode prog_9_method_21_code 2 = .ok (.iload_n 1, 1) := by decide +kernel
theorem d_Model_at_3 : decode prog_9_method_21_code 3 = .ok (.invokevirtual 88, 3) := by decide +kernel
theorem d_Model_at_6 : decode prog_9_method_21_code 6 = .ok (.ifCond .ne 7, 3) := by decide +kernel
theorem d_Model_at_9 : decode prog_9_method_21_code 9 = .ok (.iconst 1, 1) := by decide +kernel
theorem d_Model_at_10 : decode prog_9_method_21_code 10 = .ok (.goto 17, 3) := by decide +kernel
theorem d_Model_at_13 : decode prog_9_method_21_code 13 = .ok (.aload_n 0, 1) := by decide +kernel
theorem d_Model_at_14 : decode prog_9_method_21_code 14 = .ok (.getfield 47, 3) := by decide +kernel
theorem d_Model_at_17 : decode prog_9_method_21_code 17 = .ok (.iload_n 1, 1) := by decide +kernel
theorem d_Model_at_18 : decode prog_9_method_21_code 18 = .ok (.baload, 1) := by decide +kernel
theorem d_Model_at_19 : decode prog_9_method_21_code 19 = .ok (.ifCond .ne 7, 3) := by decide +kernel
theorem d_Model_at_22 : decode prog_9_method_21_code 22 = .ok (.iconst 2, 1) := by decide +kernel
theorem d_Model_at_23 : decode prog_9_method_21_code 23 = .ok (.goto 4, 3) := by decide +kernel
theorem d_Model_at_26 : decode prog_9_method_21_code 26 = .ok (.iconst 0, 1) := by decide +kernel
theorem d_Model_at_27 : decode prog_9_method_21_code 27 = .ok (.putfield 85, 3) := by decide +kernel
theorem d_Model_at_30 : decode prog_9_method_21_code 30 = .ok (.aload_n 0, 1) := by decide +kernel
theorem d_Model_at_31 : decode prog_9_method_21_code 31 = .ok (.getfield 85, 3) := by decide +kernel
theorem d_Model_at_34 : decode prog_9_method_21_code 34 = .ok (.ifCond .le 7, 3) := by decide +kernel
theorem d_Model_at_37 : decode prog_9_method_21_code 37 = .ok (.lconst 0, 1) := by decide +kernel
theorem d_Model_at_38 : decode prog_9_method_21_code 38 = .ok (.goto 9, 3) := by decide +kernel
theorem d_Model_at_41 : decode prog_9_method_21_code 41 = .ok (.aload_n 0, 1) := by decide +kernel
theorem d_Model_at_42 : decode prog_9_method_21_code 42 = .ok (.getfield 51, 3) := by decide +kernel
theorem d_Model_at_45 : decode prog_9_method_21_code 45 = .ok (.iload_n 1, 1) := by decide +kernel
theorem d_Model_at_46 : decode prog_9_method_21_code 46 = .ok (.laload, 1) := by decide +kernel
theorem d_Model_at_47 : decode prog_9_method_21_code 47 = .ok (.lreturn, 1) := by decide +kernel
theorem d_Model_order_0 : decode prog_9_method_22_code 0 = .ok (.aload_n 0, 1) := by decide +kernel
theorem d_Model_order_1 : decode prog_9_method_22_code 1 = .ok (.iload_n 1, 1) := by decide +kernel
theorem d_Model_order_2 : decode prog_9_method_22_code 2 = .ok (.iconst 0, 1) := by decide +kernel
theorem d_Model_order_3 : decode prog_9_method_22_code 3 = .ok (.aload_n 0, 1) := by decide +kernel
theorem d_Model_order_4 : decode prog_9_method_22_code 4 = .ok (.getfield 116, 3) := by decide +kernel
theorem d_Model_order_7 : decode prog_9_method_22_code 7 = .ok (.iconst 1, 1) := by decide +kernel
theorem d_Model_order_8 : decode prog_9_method_22_code 8 = .ok (.isub, 1) := by decide +kernel
theorem d_Model_order_9 : decode prog_9_method_22_code 9 = .ok (.invokestatic 92, 3) := by decide +kernel
theorem d_Model_order_12 : decode prog_9_method_22_code 12 = .ok (.ifCond .eq 7, 3) := by decide +kernel
theorem d_Model_order_15 : decode prog_9_method_22_code 15 = .ok (.iconst 0, 1) := by decide +kernel
theorem d_Model_order_16 : decode prog_9_method_22_code 16 = .ok (.goto 4, 3) := by decide +kernel
theorem d_Model_order_19 : decode prog_9_method_22_code 19 = .ok (.iconst 1, 1) := by decide +kernel
theorem d_Model_order_20 : decode prog_9_method_22_code 20 = .ok (.putfield 85, 3) := by decide +kernel
theorem d_Model_order_23 : decode prog_9_method_22_code 23 = .ok (.aload_n 0, 1) := by decide +kernel
theorem d_Model_order_24 : decode prog_9_method_22_code 24 = .ok (.getfield 85, 3) := by decide +kernel
theorem d_Model_order_27 : decode prog_9_method_22_code 27 = .ok (.ifCond .le 7, 3) := by decide +kernel
theorem d_Model_order_30 : decode prog_9_method_22_code 30 = .ok (.iconst 0, 1) := by decide +kernel
theorem d_Model_order_31 : decode prog_9_method_22_code 31 = .ok (.goto 9, 3) := by decide +kernel
theorem d_Model_order_34 : decode prog_9_method_22_code 34 = .ok (.aload_n 0, 1) := by decide +kernel
theorem d_Model_order_35 : decode prog_9_method_22_code 35 = .ok (.getfield 66, 3) := by decide +kernel
theorem d_Model_order_38 : decode prog_9_method_22_code 38 = .ok (.iload_n 1, 1) := by decide +kernel
theorem d_Model_order_39 : decode prog_9_method_22_code 39 = .ok (.iaload, 1) := by decide +kernel
theorem d_Model_order_40 : decode prog_9_method_22_code 40 = .ok (.ireturn, 1) := by decide +kernel
theorem d_Model_begun_0 : decode prog_9_method_23_code 0 = .ok (.aload_n 0, 1) := by decide +kernel
theorem d_Model_begun_1 : decode prog_9_method_23_code 1 = .ok (.aload_n 0, 1) := by decide +kernel
theorem d_Model_begun_2 : decode prog_9_method_23_code 2 = .ok (.iload_n 1, 1) := by decide +kernel
theorem d_Model_begun_3 : decode prog_9_method_23_code 3 = .ok (.invokevirtual 88, 3) := by decide +kernel
theorem d_Model_begun_6 : decode prog_9_method_23_code 6 = .ok (.ifCond .eq 7, 3) := by decide +kernel
theorem d_Model_begun_9 : decode prog_9_method_23_code 9 = .ok (.iconst 0, 1) := by decide +kernel
theorem d_Model_begun_10 : decode prog_9_method_23_code 10 = .ok (.goto 4, 3) := by decide +kernel
theorem d_Model_begun_13 : decode prog_9_method_23_code 13 = .ok (.iconst 1, 1) := by decide +kernel
theorem d_Model_begun_14 : decode prog_9_method_23_code 14 = .ok (.putfield 85, 3) := by decide +kernel
theorem d_Model_begun_17 : decode prog_9_method_23_code 17 = .ok (.aload_n 0, 1) := by decide +kernel
theorem d_Model_begun_18 : decode prog_9_method_23_code 18 = .ok (.getfield 85, 3) := by decide +kernel
theorem d_Model_begun_21 : decode prog_9_method_23_code 21 = .ok (.ifCond .le 7, 3) := by decide +kernel
theorem d_Model_begun_24 : decode prog_9_method_23_code 24 = .ok (.iconst 0, 1) := by decide +kernel
theorem d_Model_begun_25 : decode prog_9_method_23_code 25 = .ok (.goto 9, 3) := by decide +kernel
theorem d_Model_begun_28 : decode prog_9_method_23_code 28 = .ok (.aload_n 0, 1) := by decide +kernel
theorem d_Model_begun_29 : decode prog_9_method_23_code 29 = .ok (.getfield 69, 3) := by decide +kernel
theorem d_Model_begun_32 : decode prog_9_method_23_code 32 = .ok (.iload_n 1, 1) := by decide +kernel
theorem d_Model_begun_33 : decode prog_9_method_23_code 33 = .ok (.iaload, 1) := by decide +kernel
theorem d_Model_begun_34 : decode prog_9_method_23_code 34 = .ok (.ireturn, 1) := by decide +kernel
theorem d_Model_waited_0 : decode prog_9_method_24_code 0 = .ok (.aload_n 0, 1) := by decide +kernel
theorem d_Model_waited_1 : decode prog_9_method_24_code 1 = .ok (.aload_n 0, 1) := by decide +kernel
theorem d_Model_waited_2 : decode prog_9_method_24_code 2 = .ok (.iload_n 1, 1) := by decide +kernel
theorem d_Model_waited_3 : decode prog_9_method_24_code 3 = .ok (.invokevirtual 88, 3) := by decide +kernel
theorem d_Model_waited_6 : decode prog_9_method_24_code 6 = .ok (.ifCond .eq 15, 3) := by decide +kernel
theorem d_Model_waited_9 : decode prog_9_method_24_code 9 = .ok (.aload_n 0, 1) := by decide +kernel
theorem d_Model_waited_10 : decode prog_9_method_24_code 10 = .ok (.iload_n 2, 1) := by decide +kernel
theorem d_Model_waited_11 : decode prog_9_method_24_code 11 = .ok (.invokevirtual 88, 3) := by decide +kernel
theorem d_Model_waited_14 : decode prog_9_method_24_code 14 = .ok (.ifCond .eq 7, 3) := by decide +kernel
theorem d_Model_waited_17 : decode prog_9_method_24_code 17 = .ok (.iconst 0, 1) := by decide +kernel
theorem d_Model_waited_18 : decode prog_9_method_24_code 18 = .ok (.goto 4, 3) := by decide +kernel
theorem d_Model_waited_21 : decode prog_9_method_24_code 21 = .ok (.iconst 1, 1) := by decide +kernel
theorem d_Model_waited_22 : decode prog_9_method_24_code 22 = .ok (.putfield 85, 3) := by decide +kernel
theorem d_Model_waited_25 : decode prog_9_method_24_code 25 = .ok (.aload_n 0, 1) := by decide +kernel
theorem d_Model_waited_26 : decode prog_9_method_24_code 26 = .ok (.getfield 85, 3) := by decide +kernel
theorem d_Model_waited_29 : decode prog_9_method_24_code 29 = .ok (.ifCond .le 7, 3) := by decide +kernel
theorem d_Model_waited_32 : decode prog_9_method_24_code 32 = .ok (.iconst 0, 1) := by decide +kernel
theorem d_Model_waited_33 : decode prog_9_method_24_code 33 = .ok (.goto 14, 3) := by decide +kernel
theorem d_Model_waited_36 : decode prog_9_method_24_code 36 = .ok (.aload_n 0, 1) := by decide +kernel
theorem d_Model_waited_37 : decode prog_9_method_24_code 37 = .ok (.getfield 72, 3) := by decide +kernel
theorem d_Model_waited_40 : decode prog_9_method_24_code 40 = .ok (.bipush 16, 2) := by decide +kernel
theorem d_Model_waited_42 : decode prog_9_method_24_code 42 = .ok (.iload_n 1, 1) := by decide +kernel
theorem d_Model_waited_43 : decode prog_9_method_24_code 43 = .ok (.imul, 1) := by decide +kernel
theorem d_Model_waited_44 : decode prog_9_method_24_code 44 = .ok (.iload_n 2, 1) := by decide +kernel
theorem d_Model_waited_45 : decode prog_9_method_24_code 45 = .ok (.iadd, 1) := by decide +kernel
theorem d_Model_waited_46 : decode prog_9_method_24_code 46 = .ok (.iaload, 1) := by decide +kernel
theorem d_Model_waited_47 : decode prog_9_method_24_code 47 = .ok (.ireturn, 1) := by decide +kernel
theorem d_Model_told_0 : decode prog_9_method_25_code 0 = .ok (.aload_n 0, 1) := by decide +kernel
theorem d_Model_told_1 : decode prog_9_method_25_code 1 = .ok (.iconst 0, 1) := by decide +kernel
theorem d_Model_told_2 : decode prog_9_method_25_code 2 = .ok (.putfield 85, 3) := by decide +kernel
theorem d_Model_told_5 : decode prog_9_method_25_code 5 = .ok (.iconst 0, 1) := by decide +kernel
theorem d_Model_told_6 : decode prog_9_method_25_code 6 = .ok (.istore_n 2, 1) := by decide +kernel
theorem d_Model_told_7 : decode prog_9_method_25_code 7 = .ok (.iconst 0, 1) := by decide +kernel
theorem d_Model_told_8 : decode prog_9_method_25_code 8 = .ok (.istore_n 3, 1) := by decide +kernel
theorem d_Model_told_9 : decode prog_9_method_25_code 9 = .ok (.iload_n 3, 1) := by decide +kernel
theorem d_Model_told_10 : decode prog_9_method_25_code 10 = .ok (.aload_n 0, 1) := by decide +kernel
theorem d_Model_told_11 : decode prog_9_method_25_code 11 = .ok (.getfield 75, 3) := by decide +kernel
theorem d_Model_told_14 : decode prog_9_method_25_code 14 = .ok (.if_icmp .ge 26, 3) := by decide +kernel
theorem d_Model_told_17 : decode prog_9_method_25_code 17 = .ok (.iload_n 2, 1) := by decide +kernel
theorem d_Model_told_18 : decode prog_9_method_25_code 18 = .ok (.aload_n 0, 1) := by decide +kernel
theorem d_Model_told_19 : decode prog_9_method_25_code 19 = .ok (.getfield 47, 3) := by decide +kernel
theorem d_Model_told_22 : decode prog_9_method_25_code 22 = .ok (.iload_n 3, 1) := by decide +kernel
theorem d_Model_told_23 : decode prog_9_method_25_code 23 = .ok (.baload, 1) := by decide +kernel
theorem d_Model_told_24 : decode prog_9_method_25_code 24 = .ok (.ifCond .eq 7, 3) := by decide +kernel
theorem d_Model_told_27 : decode prog_9_method_25_code 27 = .ok (.iconst 1, 1) := by decide +kernel
theorem d_Model_told_28 : decode prog_9_method_25_code 28 = .ok (.goto 4, 3) := by decide +kernel
theorem d_Model_told_31 : decode prog_9_method_25_code 31 = .ok (.iconst 0, 1) := by decide +kernel
theorem d_Model_told_32 : decode prog_9_method_25_code 32 = .ok (.iadd, 1) := by decide +kernel
theorem d_Model_told_33 : decode prog_9_method_25_code 33 = .ok (.istore_n 2, 1) := by decide +kernel
theorem d_Model_told_34 : decode prog_9_method_25_code 34 = .ok (.iinc 3 1, 3) := by decide +kernel
theorem d_Model_told_37 : decode prog_9_method_25_code 37 = .ok (.goto (-28), 3) := by decide +kernel
theorem d_Model_told_40 : decode prog_9_method_25_code 40 = .ok (.iload_n 1, 1) := by decide +kernel
theorem d_Model_told_41 : decode prog_9_method_25_code 41 = .ok (.tableswitch 120 0 11 #[63, 68, 73, 78, 83, 88, 93, 98, 103, 108, 113, 118], 63) := by decide +kernel
theorem d_Model_told_104 : decode prog_9_method_25_code 104 = .ok (.aload_n 0, 1) := by decide +kernel
theorem d_Model_told_105 : decode prog_9_method_25_code 105 = .ok (.getfield 75, 3) := by decide +kernel
theorem d_Model_told_108 : decode prog_9_method_25_code 108 = .ok (.ireturn, 1) := by decide +kernel
theorem d_Model_told_109 : decode prog_9_method_25_code 109 = .ok (.aload_n 0, 1) := by decide +kernel
theorem d_Model_told_110 : decode prog_9_method_25_code 110 = .ok (.getfield 79, 3) := by decide +kernel
theorem d_Model_told_113 : decode prog_9_method_25_code 113 = .ok (.ireturn, 1) := by decide +kernel
theorem d_Model_told_114 : decode prog_9_method_25_code 114 = .ok (.aload_n 0, 1) := by decide +kernel
theorem d_Model_told_115 : decode prog_9_method_25_code 115 = .ok (.getfield 96, 3) := by decide +kernel
theorem d_Model_told_118 : decode prog_9_method_25_code 118 = .ok (.ireturn, 1) := by decide +kernel
theorem d_Model_told_119 : decode prog_9_method_25_code 119 = .ok (.aload_n 0, 1) := by decide +kernel
theorem d_Model_told_120 : decode prog_9_method_25_code 120 = .ok (.getfield 99, 3) := by decide +kernel
theorem d_Model_told_123 : decode prog_9_method_25_code 123 = .ok (.ireturn, 1) := by decide +kernel
theorem d_Model_told_124 : decode prog_9_method_25_code 124 = .ok (.aload_n 0, 1) := by decide +kernel
theorem d_Model_told_125 : decode prog_9_method_25_code 125 = .ok (.getfield 154, 3) := by decide +kernel
theorem d_Model_told_128 : decode prog_9_method_25_code 128 = .ok (.ireturn, 1) := by decide +kernel
theorem d_Model_told_129 : decode prog_9_method_25_code 129 = .ok (.aload_n 0, 1) := by decide +kernel
theorem d_Model_told_130 : decode prog_9_method_25_code 130 = .ok (.getfield 127, 3) := by decide +kernel
theorem d_Model_told_133 : decode prog_9_method_25_code 133 = .ok (.ireturn, 1) := by decide +kernel
theorem d_Model_told_134 : decode prog_9_method_25_code 134 = .ok (.aload_n 0, 1) := by decide +kernel
theorem d_Model_told_135 : decode prog_9_method_25_code 135 = .ok (.getfield 134, 3) := by decide +kernel
theorem d_Model_told_138 : decode prog_9_method_25_code 138 = .ok (.ireturn, 1) := by decide +kernel
theorem d_Model_told_139 : decode prog_9_method_25_code 139 = .ok (.aload_n 0, 1) := by decide +kernel
theorem d_Model_told_140 : decode prog_9_method_25_code 140 = .ok (.getfield 113, 3) := by decide +kernel
theorem d_Model_told_143 : decode prog_9_method_25_code 143 = .ok (.ireturn, 1) := by decide +kernel
theorem d_Model_told_144 : decode prog_9_method_25_code 144 = .ok (.aload_n 0, 1) := by decide +kernel
theorem d_Model_told_145 : decode prog_9_method_25_code 145 = .ok (.getfield 108, 3) := by decide +kernel
theorem d_Model_told_148 : decode prog_9_method_25_code 148 = .ok (.ireturn, 1) := by decide +kernel
theorem d_Model_told_149 : decode prog_9_method_25_code 149 = .ok (.aload_n 0, 1) := by decide +kernel
theorem d_Model_told_150 : decode prog_9_method_25_code 150 = .ok (.getfield 168, 3) := by decide +kernel
theorem d_Model_told_153 : decode prog_9_method_25_code 153 = .ok (.ireturn, 1) := by decide +kernel
theorem d_Model_told_154 : decode prog_9_method_25_code 154 = .ok (.aload_n 0, 1) := by decide +kernel
theorem d_Model_told_155 : decode prog_9_method_25_code 155 = .ok (.getfield 116, 3) := by decide +kernel
theorem d_Model_told_158 : decode prog_9_method_25_code 158 = .ok (.ireturn, 1) := by decide +kernel
theorem d_Model_told_159 : decode prog_9_method_25_code 159 = .ok (.iload_n 2, 1) := by decide +kernel
theorem d_Model_told_160 : decode prog_9_method_25_code 160 = .ok (.ireturn, 1) := by decide +kernel
theorem d_Model_told_161 : decode prog_9_method_25_code 161 = .ok (.iconst (-1), 1) := by decide +kernel
theorem d_Model_told_162 : decode prog_9_method_25_code 162 = .ok (.ireturn, 1) := by decide +kernel
theorem d_Model_clear_0 : decode prog_9_method_26_code 0 = .ok (.aload_n 0, 1) := by decide +kernel
theorem d_Model_clear_1 : decode prog_9_method_26_code 1 = .ok (.iconst 0, 1) := by decide +kernel
theorem d_Model_clear_2 : decode prog_9_method_26_code 2 = .ok (.putfield 85, 3) := by decide +kernel
theorem d_Model_clear_5 : decode prog_9_method_26_code 5 = .ok (.aload_n 0, 1) := by decide +kernel
theorem d_Model_clear_6 : decode prog_9_method_26_code 6 = .ok (.iconst 0, 1) := by decide +kernel
theorem d_Model_clear_7 : decode prog_9_method_26_code 7 = .ok (.putfield 96, 3) := by decide +kernel
theorem d_Model_clear_10 : decode prog_9_method_26_code 10 = .ok (.aload_n 0, 1) := by decide +kernel
theorem d_Model_clear_11 : decode prog_9_method_26_code 11 = .ok (.iconst (-1), 1) := by decide +kernel
theorem d_Model_clear_12 : decode prog_9_method_26_code 12 = .ok (.putfield 99, 3) := by decide +kernel
theorem d_Model_clear_15 : decode prog_9_method_26_code 15 = .ok (.iconst 0, 1) := by decide +kernel
theorem d_Model_clear_16 : decode prog_9_method_26_code 16 = .ok (.istore_n 1, 1) := by decide +kernel
theorem d_Model_clear_17 : decode prog_9_method_26_code 17 = .ok (.iload_n 1, 1) := by decide +kernel
theorem d_Model_clear_18 : decode prog_9_method_26_code 18 = .ok (.bipush 16, 2) := by decide +kernel
theorem d_Model_clear_20 : decode prog_9_method_26_code 20 = .ok (.if_icmp .ge 59, 3) := by decide +kernel
theorem d_Model_clear_23 : decode prog_9_method_26_code 23 = .ok (.aload_n 0, 1) := by decide +kernel
theorem d_Model_clear_24 : decode prog_9_method_26_code 24 = .ok (.getfield 7, 3) := by decide +kernel
theorem d_Model_clear_27 : decode prog_9_method_26_code 27 = .ok (.iload_n 1, 1) := by decide +kernel
theorem d_Model_clear_28 : decode prog_9_method_26_code 28 = .ok (.iconst 1, 1) := by decide +kernel
theorem d_Model_clear_29 : decode prog_9_method_26_code 29 = .ok (.iastore, 1) := by decide +kernel
theorem d_Model_clear_30 : decode prog_9_method_26_code 30 = .ok (.aload_n 0, 1) := by decide +kernel
theorem d_Model_clear_31 : decode prog_9_method_26_code 31 = .ok (.getfield 13, 3) := by decide +kernel
theorem d_Model_clear_34 : decode prog_9_method_26_code 34 = .ok (.iload_n 1, 1) := by decide +kernel
theorem d_Model_clear_35 : decode prog_9_method_26_code 35 = .ok (.iconst 1, 1) := by decide +kernel
theorem d_Model_clear_36 : decode prog_9_method_26_code 36 = .ok (.iastore, 1) := by decide +kernel
theorem d_Model_clear_37 : decode prog_9_method_26_code 37 = .ok (.aload_n 0, 1) := by decide +kernel
theorem d_Model_clear_38 : decode prog_9_method_26_code 38 = .ok (.getfield 16, 3) := by decide +kernel
theorem d_Model_clear_41 : decode prog_9_method_26_code 41 = .ok (.iload_n 1, 1) := by decide +kernel
theorem d_Model_clear_42 : decode prog_9_method_26_code 42 = .ok (.iload_n 1, 1) := by decide +kernel
theorem d_Model_clear_43 : decode prog_9_method_26_code 43 = .ok (.i2l, 1) := by decide +kernel
theorem d_Model_clear_44 : decode prog_9_method_26_code 44 = .ok (.lastore, 1) := by decide +kernel
theorem d_Model_clear_45 : decode prog_9_method_26_code 45 = .ok (.aload_n 0, 1) := by decide +kernel
theorem d_Model_clear_46 : decode prog_9_method_26_code 46 = .ok (.getfield 20, 3) := by decide +kernel
theorem d_Model_clear_49 : decode prog_9_method_26_code 49 = .ok (.iload_n 1, 1) := by decide +kernel
theorem d_Model_clear_50 : decode prog_9_method_26_code 50 = .ok (.iconst 0, 1) := by decide +kernel
theorem d_Model_clear_51 : decode prog_9_method_26_code 51 = .ok (.iastore, 1) := by decide +kernel
theorem d_Model_clear_52 : decode prog_9_method_26_code 52 = .ok (.aload_n 0, 1) := by decide +kernel
theorem d_Model_clear_53 : decode prog_9_method_26_code 53 = .ok (.getfield 47, 3) := by decide +kernel
theorem d_Model_clear_56 : decode prog_9_method_26_code 56 = .ok (.iload_n 1, 1) := by decide +kernel
theorem d_Model_clear_57 : decode prog_9_method_26_code 57 = .ok (.iconst 0, 1) := by decide +kernel
theorem d_Model_clear_58 : decode prog_9_method_26_code 58 = .ok (.bastore, 1) := by decide +kernel
theorem d_Model_clear_59 : decode prog_9_method_26_code 59 = .ok (.aload_n 0, 1) := by decide +kernel
theorem d_Model_clear_60 : decode prog_9_method_26_code 60 = .ok (.getfield 57, 3) := by decide +kernel
theorem d_Model_clear_63 : decode prog_9_method_26_code 63 = .ok (.iload_n 1, 1) := by decide +kernel
theorem d_Model_clear_64 : decode prog_9_method_26_code 64 = .ok (.iconst 0, 1) := by decide +kernel
theorem d_Model_clear_65 : decode prog_9_method_26_code 65 = .ok (.iastore, 1) := by decide +kernel
theorem d_Model_clear_66 : decode prog_9_method_26_code 66 = .ok (.aload_n 0, 1) := by decide +kernel
theorem d_Model_clear_67 : decode prog_9_method_26_code 67 = .ok (.getfield 69, 3) := by decide +kernel
theorem d_Model_clear_70 : decode prog_9_method_26_code 70 = .ok (.iload_n 1, 1) := by decide +kernel
theorem d_Model_clear_71 : decode prog_9_method_26_code 71 = .ok (.iconst 0, 1) := by decide +kernel
theorem d_Model_clear_72 : decode prog_9_method_26_code 72 = .ok (.iastore, 1) := by decide +kernel
theorem d_Model_clear_73 : decode prog_9_method_26_code 73 = .ok (.iinc 1 1, 3) := by decide +kernel
theorem d_Model_clear_76 : decode prog_9_method_26_code 76 = .ok (.goto (-59), 3) := by decide +kernel
theorem d_Model_clear_79 : decode prog_9_method_26_code 79 = .ok (.iconst 0, 1) := by decide +kernel
theorem d_Model_clear_80 : decode prog_9_method_26_code 80 = .ok (.istore_n 1, 1) := by decide +kernel
theorem d_Model_clear_81 : decode prog_9_method_26_code 81 = .ok (.iload_n 1, 1) := by decide +kernel
theorem d_Model_clear_82 : decode prog_9_method_26_code 82 = .ok (.sipush 256, 3) := by decide +kernel
theorem d_Model_clear_85 : decode prog_9_method_26_code 85 = .ok (.if_icmp .ge 16, 3) := by decide +kernel
theorem d_Model_clear_88 : decode prog_9_method_26_code 88 = .ok (.aload_n 0, 1) := by decide +kernel
theorem d_Model_clear_89 : decode prog_9_method_26_code 89 = .ok (.getfield 72, 3) := by decide +kernel
theorem d_Model_clear_92 : decode prog_9_method_26_code 92 = .ok (.iload_n 1, 1) := by decide +kernel
theorem d_Model_clear_93 : decode prog_9_method_26_code 93 = .ok (.iconst 0, 1) := by decide +kernel
theorem d_Model_clear_94 : decode prog_9_method_26_code 94 = .ok (.iastore, 1) := by decide +kernel
theorem d_Model_clear_95 : decode prog_9_method_26_code 95 = .ok (.iinc 1 1, 3) := by decide +kernel
theorem d_Model_clear_98 : decode prog_9_method_26_code 98 = .ok (.goto (-17), 3) := by decide +kernel
theorem d_Model_clear_101 : decode prog_9_method_26_code 101 = .ok (.aload_n 0, 1) := by decide +kernel
theorem d_Model_clear_102 : decode prog_9_method_26_code 102 = .ok (.iconst 0, 1) := by decide +kernel
theorem d_Model_clear_103 : decode prog_9_method_26_code 103 = .ok (.putfield 116, 3) := by decide +kernel
theorem d_Model_clear_106 : decode prog_9_method_26_code 106 = .ok (.aload_n 0, 1) := by decide +kernel
theorem d_Model_clear_107 : decode prog_9_method_26_code 107 = .ok (.iconst 0, 1) := by decide +kernel
theorem d_Model_clear_108 : decode prog_9_method_26_code 108 = .ok (.putfield 154, 3) := by decide +kernel
theorem d_Model_clear_111 : decode prog_9_method_26_code 111 = .ok (.aload_n 0, 1) := by decide +kernel
theorem d_Model_clear_112 : decode prog_9_method_26_code 112 = .ok (.iconst 0, 1) := by decide +kernel
theorem d_Model_clear_113 : decode prog_9_method_26_code 113 = .ok (.putfield 127, 3) := by decide +kernel
theorem d_Model_clear_116 : decode prog_9_method_26_code 116 = .ok (.aload_n 0, 1) := by decide +kernel
theorem d_Model_clear_117 : decode prog_9_method_26_code 117 = .ok (.iconst 0, 1) := by decide +kernel
theorem d_Model_clear_118 : decode prog_9_method_26_code 118 = .ok (.putfield 134, 3) := by decide +kernel
theorem d_Model_clear_121 : decode prog_9_method_26_code 121 = .ok (.aload_n 0, 1) := by decide +kernel
theorem d_Model_clear_122 : decode prog_9_method_26_code 122 = .ok (.iconst 0, 1) := by decide +kernel
theorem d_Model_clear_123 : decode prog_9_method_26_code 123 = .ok (.putfield 113, 3) := by decide +kernel
theorem d_Model_clear_126 : decode prog_9_method_26_code 126 = .ok (.aload_n 0, 1) := by decide +kernel
theorem d_Model_clear_127 : decode prog_9_method_26_code 127 = .ok (.iconst 0, 1) := by decide +kernel
theorem d_Model_clear_128 : decode prog_9_method_26_code 128 = .ok (.putfield 108, 3) := by decide +kernel
theorem d_Model_clear_131 : decode prog_9_method_26_code 131 = .ok (.aload_n 0, 1) := by decide +kernel
theorem d_Model_clear_132 : decode prog_9_method_26_code 132 = .ok (.iconst 0, 1) := by decide +kernel
theorem d_Model_clear_133 : decode prog_9_method_26_code 133 = .ok (.putfield 168, 3) := by decide +kernel
theorem d_Model_clear_136 : decode prog_9_method_26_code 136 = .ok (.return_, 1) := by decide +kernel
theorem fl_Model_47 : zw_FL R_Model 47 7 17 := ⟨R_Model, T_Model, 36, rfl, by decide, ly_Model, Or.inl (zw_in (List.mem_of_getElem? (i := 635) (by decide +kernel)) (by decide +kernel))⟩
theorem fl_Model_51 : zw_FL R_Model 51 7 18 := ⟨R_Model, T_Model, 36, rfl, by decide, ly_Model, Or.inl (zw_in (List.mem_of_getElem? (i := 636) (by decide +kernel)) (by decide +kernel))⟩
theorem fl_Model_154 : zw_FL R_Model 154 7 30 := ⟨R_Model, T_Model, 36, rfl, by decide, ly_Model, Or.inl (zw_in (List.mem_of_getElem? (i := 648) (by decide +kernel)) (by decide +kernel))⟩
theorem fl_Model_168 : zw_FL R_Model 168 7 35 := ⟨R_Model, T_Model, 36, rfl, by decide, ly_Model, Or.inl (zw_in (List.mem_of_getElem? (i := 653) (by decide +kernel)) (by decide +kernel))⟩
theorem fp_Model_154 : zw_FP R_Model 154 7 30 (.int) false := ⟨R_Model, T_Model, 36, ty_Model, rfl, by decide, ly_Model, ty_Model_ok, rfl, nm_Model, rfl, Or.inl ⟨(zw_in (List.mem_of_getElem? (i := 648) (by decide +kernel)) (by decide +kernel)), fun h => by cases h⟩⟩
theorem fp_Model_168 : zw_FP R_Model 168 7 35 (.int) false := ⟨R_Model, T_Model, 36, ty_Model, rfl, by decide, ly_Model, ty_Model_ok, rfl, nm_Model, rfl, Or.inl ⟨(zw_in (List.mem_of_getElem? (i := 653) (by decide +kernel)) (by decide +kernel)), fun h => by cases h⟩⟩
theorem mv_Model_148 : zw_MV R_Model 148 Y_Model_isFinished R_Model 1 := ⟨Or.inl (zw_in (List.mem_of_getElem? (i := 770) (by decide +kernel)) (by decide +kernel)), (zw_in (List.mem_of_getElem? (i := 772) (by decide +kernel)) (by decide +kernel)), (zw_in (List.mem_of_getElem? (i := 16) (by decide +kernel)) (by decide +kernel)), (zw_in (List.mem_of_getElem? (i := 773) (by decide +kernel)) (by decide +kernel)), (zw_in (List.mem_of_getElem? (i := 33) (by decide +kernel)) (by decide +kernel)), by decide +kernel, by decide +kernel⟩
theorem mv_Model_151 : zw_MV R_Model 151 Y_Model_isStuck R_Model 1 := ⟨Or.inl (zw_in (List.mem_of_getElem? (i := 774) (by decide +kernel)) (by decide +kernel)), (zw_in (List.mem_of_getElem? (i := 776) (by decide +kernel)) (by decide +kernel)), (zw_in (List.mem_of_getElem? (i := 17) (by decide +kernel)) (by decide +kernel)), (zw_in (List.mem_of_getElem? (i := 777) (by decide +kernel)) (by decide +kernel)), (zw_in (List.mem_of_getElem? (i := 33) (by decide +kernel)) (by decide +kernel)), by decide +kernel, by decide +kernel⟩
set_option maxHeartbeats 4000000 in
set_option maxRecDepth 100000 in
theorem c_Model_isStuck {l : Launch} {D : va_G} {cA : Nat → ClassId} {ad : Nat → Nat} {sh : zw_Sh} (hm : ∀ (k : Nat) (q : zw_Sp), shM k = some q → sh k = some q) (z : Nat) (mi : zw_I) (ml : zw_L) (wk : Int32) (w : Nat) (hw : w ≤ 16) (ew : wk = nI w) (hE : zm_E w mi) :
    zc_M l D cA Y_Model_isStuck 1 0 0 ad sh sh z [.ref (ad 32), .int wk] mi ml (some (.int (q_stuck mi wk 17 1 0))) mi ml z := by
  refine zc_enter (own := R_Model) (by decide) rfl (Nat.le_of_ble_eq_true rfl) ?_
  intro p e s m below meth c X hr hlocks hnm hB ls hl
  have X : zw_C D cA R_Model prog_9_method_17_code 4 p m c s := X
  have hr : meth.sig.returnType = (some FieldType.boolean) := hr
  have hx := X.1
  have hb := X.2.1
  have hl : lv_has ls 4 [(0, .ref (ad 32)), (1, .int wk)] := hl
  have loop : ∀ (f i : Nat) (a : Int32)  (H : Heap) (locs : List Loc) (ls : Array Slot), i + f = 17 → i ≤ w → (a = 0 ∨ a = 1) → zw_B D cA ad sh (zw_A ad sh z) s.heap mi ml z H locs → lv_has ls 4 [(3, .int (nI i)), (2, .int a), (0, .ref (ad 32)), (1, .int wk)] →
      zc_W l D cA ad sh sh z [.ref (ad 32), .int wk] 1 0 0 (some (.int (q_stuck mi wk f a (nI i)))) mi ml z p e s m below meth c H locs 0 0 (F0 m 4 ls []) := by
    intro f
    induction f with
    | zero =>
      intro i a  H locs ls hi h2 ha hB hl
      omega
    | succ f ih =>
      intro i a  H locs ls hi h2 ha hB hl
      rw [q_stuck]
      refine lv_iload_n hx hb d_Model_isStuck_4 rfl (lv_at hl 0 rfl) ?_
      refine lv_iload_n hx hb d_Model_isStuck_5 rfl (lv_at hl 3 rfl) ?_
      refine lv_icmp_ge (tgt := 69) hx hb d_Model_isStuck_6 (by decide) (fun c_6 => ?_) (fun c_6 => ?_)
      · rw [if_pos c_6]
        refine lv_iload_n hx hb d_Model_isStuck_69 rfl (lv_at hl 1 rfl) ?_
        exact zc_zret X hr hlocks hB (nz_of ha) (by rfl) (by rfl) (by rfl) d_Model_isStuck_70
      · rw [if_neg c_6]
        have hlt : i < w := zn_lt (by omega) (by rw [← ew]; exact c_6)
        have hin : vp_in (nI i) 16 := vp_in_nI (by omega) (by decide)
        have hwk := hE.2.2.2 (nI i).toNatClampNeg (by rw [nI_clamp (by omega)]; exact hlt)
        refine lv_iload_n hx hb d_Model_isStuck_9 rfl (lv_at hl 1 rfl) ?_
        refine lv_if_eq (tgt := 69) hx hb d_Model_isStuck_10 (by decide) (fun c_10 => ?_) (fun c_10 => ?_)
        · rw [if_pos c_10]
          refine lv_iload_n hx hb d_Model_isStuck_69 rfl (lv_at hl 1 rfl) ?_
          exact zc_zret X hr hlocks hB (nz_of ha) (by rfl) (by rfl) (by rfl) d_Model_isStuck_70
        · rw [if_neg c_10]
          refine lv_aload_n hx hb d_Model_isStuck_13 rfl (lv_at hl 2 rfl) ?_
          refine zw_getR X hB fl_Model_60 32 (hm 32 _ rfl) rfl d_Model_isStuck_14 ?_
          refine lv_iload_n hx hb d_Model_isStuck_17 rfl (lv_at hl 0 rfl) ?_
          refine zw_iald X hB 49 (hm 49 _ rfl) hin d_Model_isStuck_18 ?_
          refine lv_bipush (v := (-2)) hx hb d_Model_isStuck_19 (by decide) ?_
          refine lv_icmp_eq (tgt := 57) hx hb d_Model_isStuck_21 (by decide) (fun c_21 => ?_) (fun c_21 => ?_)
          · rw [if_pos c_21]
            refine lv_iconst (v := 1) hx hb d_Model_isStuck_57 (by decide) ?_
            refine lv_goto (tgt := 62) hx hb d_Model_isStuck_58 (by decide) ?_
            refine lv_istore_n (lv' := [(2, .int 1), (3, .int (nI i)), (0, .ref (ad 32)), (1, .int wk)]) hx hb d_Model_isStuck_62 rfl hl (by decide) rfl (fun ls hl => ?_)
            refine lv_iinc (v := nI (i + 1)) (lv' := [(3, .int (nI (i + 1))), (2, .int 1), (0, .ref (ad 32)), (1, .int wk)]) hx hb d_Model_isStuck_63 hl (k := 1) rfl (nI_1 i) (by decide) rfl (fun ls hl => ?_)
            refine lv_goto (tgt := 4) hx hb d_Model_isStuck_66 (by decide) ?_
            rw [nI_1 i]
            exact ih (i + 1) _  H locs ls (by omega) (by omega) (Or.inr rfl) hB (lv_sub hl [0, 1, 2, 3] rfl)
          · rw [if_neg c_21]
            refine lv_aload_n hx hb d_Model_isStuck_24 rfl (lv_at hl 2 rfl) ?_
            refine zw_getR X hB fl_Model_60 32 (hm 32 _ rfl) rfl d_Model_isStuck_25 ?_
            refine lv_iload_n hx hb d_Model_isStuck_28 rfl (lv_at hl 0 rfl) ?_
            refine zw_iald X hB 49 (hm 49 _ rfl) hin d_Model_isStuck_29 ?_
            refine lv_iconst (v := (-1)) hx hb d_Model_isStuck_30 (by decide) ?_
            refine lv_icmp_ne (tgt := 44) hx hb d_Model_isStuck_31 (by decide) (fun c_31 => ?_) (fun c_31 => ?_)
            · rw [if_neg c_31]
              have hy : vp_in (mi 49 (nI i).toNatClampNeg) 16 := hwk.elim (fun e => absurd e c_21) (fun h => h.elim (fun e => absurd e c_31) id)
              obtain ⟨w6, hw6, ew6⟩ := hE.1.1 _ (vlt hy)
              refine lv_aload_n hx hb d_Model_isStuck_44 rfl (lv_at hl 2 rfl) ?_
              refine lv_aload_n hx hb d_Model_isStuck_45 rfl (lv_at hl 2 rfl) ?_
              refine zw_getR X hB fl_Model_60 32 (hm 32 _ rfl) rfl d_Model_isStuck_46 ?_
              refine lv_iload_n hx hb d_Model_isStuck_49 rfl (lv_at hl 0 rfl) ?_
              refine zw_iald X hB 49 (hm 49 _ rfl) hin d_Model_isStuck_50 ?_
              refine zw_callVr X hB mv_Model_130 32 (hm 32 _ rfl) rfl (c_Model_waitsFor hm z mi ml (mi 49 (nI i).toNatClampNeg) hy w6 hw6 ew6 (fun k hk => zm_at hy k hk) (fun k hk => (hE.1.2.1 k hk).1)) rfl hl.1 ⟨Nat.le_of_ble_eq_true rfl, Nat.le_of_ble_eq_true rfl⟩ rfl (Nat.le_of_ble_eq_true rfl) ⟨Nat.le_of_ble_eq_true rfl, Nat.le_of_ble_eq_true rfl⟩ d_Model_isStuck_51 (fun H locs hB => ?_)
              refine lv_if_lt (tgt := 61) hx hb d_Model_isStuck_54 (by decide) (fun c_54 => ?_) (fun c_54 => ?_)
              · rw [if_pos c_54]
                refine lv_iconst (v := 0) hx hb d_Model_isStuck_61 (by decide) ?_
                refine lv_istore_n (lv' := [(2, .int 0), (3, .int (nI i)), (0, .ref (ad 32)), (1, .int wk)]) hx hb d_Model_isStuck_62 rfl hl (by decide) rfl (fun ls hl => ?_)
                refine lv_iinc (v := nI (i + 1)) (lv' := [(3, .int (nI (i + 1))), (2, .int 0), (0, .ref (ad 32)), (1, .int wk)]) hx hb d_Model_isStuck_63 hl (k := 1) rfl (nI_1 i) (by decide) rfl (fun ls hl => ?_)
                refine lv_goto (tgt := 4) hx hb d_Model_isStuck_66 (by decide) ?_
                rw [nI_1 i]
                exact ih (i + 1) _  H locs ls (by omega) (by omega) (Or.inl rfl) hB (lv_sub hl [0, 1, 2, 3] rfl)
              · rw [if_neg c_54]
                refine lv_iconst (v := 1) hx hb d_Model_isStuck_57 (by decide) ?_
                refine lv_goto (tgt := 62) hx hb d_Model_isStuck_58 (by decide) ?_
                refine lv_istore_n (lv' := [(2, .int 1), (3, .int (nI i)), (0, .ref (ad 32)), (1, .int wk)]) hx hb d_Model_isStuck_62 rfl hl (by decide) rfl (fun ls hl => ?_)
                refine lv_iinc (v := nI (i + 1)) (lv' := [(3, .int (nI (i + 1))), (2, .int 1), (0, .ref (ad 32)), (1, .int wk)]) hx hb d_Model_isStuck_63 hl (k := 1) rfl (nI_1 i) (by decide) rfl (fun ls hl => ?_)
                refine lv_goto (tgt := 4) hx hb d_Model_isStuck_66 (by decide) ?_
                rw [nI_1 i]
                exact ih (i + 1) _  H locs ls (by omega) (by omega) (Or.inr rfl) hB (lv_sub hl [0, 1, 2, 3] rfl)
            · rw [if_pos c_31]
              refine lv_aload_n hx hb d_Model_isStuck_34 rfl (lv_at hl 2 rfl) ?_
              refine zw_callVr X hB mv_Model_119 32 (hm 32 _ rfl) rfl (c_Model_canTake hm z mi ml hE.2.1) rfl hl.1 ⟨Nat.le_of_ble_eq_true rfl, Nat.le_of_ble_eq_true rfl⟩ rfl (Nat.le_of_ble_eq_true rfl) ⟨Nat.le_of_ble_eq_true rfl, Nat.le_of_ble_eq_true rfl⟩ d_Model_isStuck_35 (fun H locs hB => ?_)
              refine lv_if_ne (tgt := 61) hx hb d_Model_isStuck_38 (by decide) (fun c_38 => ?_) (fun c_38 => ?_)
              · rw [if_neg c_38]
                refine lv_iconst (v := 0) hx hb d_Model_isStuck_61 (by decide) ?_
                refine lv_istore_n (lv' := [(2, .int 0), (3, .int (nI i)), (0, .ref (ad 32)), (1, .int wk)]) hx hb d_Model_isStuck_62 rfl hl (by decide) rfl (fun ls hl => ?_)
                refine lv_iinc (v := nI (i + 1)) (lv' := [(3, .int (nI (i + 1))), (2, .int 0), (0, .ref (ad 32)), (1, .int wk)]) hx hb d_Model_isStuck_63 hl (k := 1) rfl (nI_1 i) (by decide) rfl (fun ls hl => ?_)
                refine lv_goto (tgt := 4) hx hb d_Model_isStuck_66 (by decide) ?_
                rw [nI_1 i]
                exact ih (i + 1) _  H locs ls (by omega) (by omega) (Or.inl rfl) hB (lv_sub hl [0, 1, 2, 3] rfl)
              · rw [if_pos c_38]
                refine lv_goto (tgt := 57) hx hb d_Model_isStuck_41 (by decide) ?_
                refine lv_iconst (v := 1) hx hb d_Model_isStuck_57 (by decide) ?_
                refine lv_goto (tgt := 62) hx hb d_Model_isStuck_58 (by decide) ?_
                refine lv_istore_n (lv' := [(2, .int 1), (3, .int (nI i)), (0, .ref (ad 32)), (1, .int wk)]) hx hb d_Model_isStuck_62 rfl hl (by decide) rfl (fun ls hl => ?_)
                refine lv_iinc (v := nI (i + 1)) (lv' := [(3, .int (nI (i + 1))), (2, .int 1), (0, .ref (ad 32)), (1, .int wk)]) hx hb d_Model_isStuck_63 hl (k := 1) rfl (nI_1 i) (by decide) rfl (fun ls hl => ?_)
                refine lv_goto (tgt := 4) hx hb d_Model_isStuck_66 (by decide) ?_
                rw [nI_1 i]
                exact ih (i + 1) _  H locs ls (by omega) (by omega) (Or.inr rfl) hB (lv_sub hl [0, 1, 2, 3] rfl)
  refine lv_iconst (v := 1) hx hb d_Model_isStuck_0 (by decide) ?_
  refine lv_istore_n (lv' := [(2, .int 1), (0, .ref (ad 32)), (1, .int wk)]) hx hb d_Model_isStuck_1 rfl hl (by decide) rfl (fun ls hl => ?_)
  refine lv_iconst (v := 0) hx hb d_Model_isStuck_2 (by decide) ?_
  refine lv_istore_n (lv' := [(3, .int 0), (2, .int 1), (0, .ref (ad 32)), (1, .int wk)]) hx hb d_Model_isStuck_3 rfl hl (by decide) rfl (fun ls hl => ?_)
  exact loop 17 0 1  _ _ ls rfl (by omega) (Or.inr rfl) hB (lv_sub hl [0, 1, 2, 3] rfl)

set_option maxHeartbeats 4000000 in
set_option maxRecDepth 100000 in
theorem c_Model_ending {l : Launch} {D : va_G} {cA : Nat → ClassId} {ad : Nat → Nat} {sh : zw_Sh} (hm : ∀ (k : Nat) (q : zw_Sp), shM k = some q → sh k = some q) (z : Nat) (mi : zw_I) (ml : zw_L) (wk : Int32) (w : Nat) (hw : w ≤ 16) (ew : wk = nI w) (hE : zm_E w mi) :
    zc_M l D cA Y_Model_ending 2 0 0 ad sh sh z [.ref (ad 32), .int wk] mi ml (some (.int (q_end mi wk))) mi ml z := by
  refine zc_enter (own := R_Model) (by decide) rfl (Nat.le_of_ble_eq_true rfl) ?_
  intro p e s m below meth c X hr hlocks hnm hB ls hl
  have X : zw_C D cA R_Model prog_9_method_18_code 2 p m c s := X
  have hr : meth.sig.returnType = (some FieldType.int) := hr
  have hx := X.1
  have hb := X.2.1
  have hl : lv_has ls 2 [(0, .ref (ad 32)), (1, .int wk)] := hl
  unfold q_end
  refine lv_aload_n hx hb d_Model_ending_0 rfl (lv_at hl 0 rfl) ?_
  refine zw_getI X hB fl_Model_116 32 (hm 32 _ rfl) rfl d_Model_ending_1 ?_
  refine lv_aload_n hx hb d_Model_ending_4 rfl (lv_at hl 0 rfl) ?_
  refine zw_getI X hB fl_Model_75 32 (hm 32 _ rfl) rfl d_Model_ending_5 ?_
  refine lv_icmp_ne (tgt := 15) hx hb d_Model_ending_8 (by decide) (fun c_8 => ?_) (fun c_8 => ?_)
  · rw [if_neg c_8]
    refine lv_aload_n hx hb d_Model_ending_15 rfl (lv_at hl 0 rfl) ?_
    refine zw_getI X hB fl_Model_99 32 (hm 32 _ rfl) rfl d_Model_ending_16 ?_
    refine lv_iconst (v := (-1)) hx hb d_Model_ending_19 (by decide) ?_
    refine lv_icmp_eq (tgt := 38) hx hb d_Model_ending_20 (by decide) (fun c_20 => ?_) (fun c_20 => ?_)
    · rw [if_pos c_20]
      unfold q_end2
      refine lv_aload_n hx hb d_Model_ending_38 rfl (lv_at hl 0 rfl) ?_
      refine zw_getI X hB fl_Model_141 32 (hm 32 _ rfl) rfl d_Model_ending_39 ?_
      refine lv_if_ne (tgt := 49) hx hb d_Model_ending_42 (by decide) (fun c_42 => ?_) (fun c_42 => ?_)
      · rw [if_neg c_42]
        refine lv_aload_n hx hb d_Model_ending_49 rfl (lv_at hl 0 rfl) ?_
        refine lv_iload_n hx hb d_Model_ending_50 rfl (lv_at hl 1 rfl) ?_
        refine zw_callVr X hB mv_Model_151 32 (hm 32 _ rfl) rfl (c_Model_isStuck hm z mi ml wk w hw ew hE) rfl hl.1 ⟨Nat.le_of_ble_eq_true rfl, Nat.le_of_ble_eq_true rfl⟩ rfl (Nat.le_of_ble_eq_true rfl) ⟨Nat.le_of_ble_eq_true rfl, Nat.le_of_ble_eq_true rfl⟩ d_Model_ending_51 (fun H locs hB => ?_)
        refine lv_if_eq (tgt := 62) hx hb d_Model_ending_54 (by decide) (fun c_54 => ?_) (fun c_54 => ?_)
        · rw [if_pos c_54]
          refine lv_aload_n hx hb d_Model_ending_62 rfl (lv_at hl 0 rfl) ?_
          refine zw_getI X hB fl_Model_154 32 (hm 32 _ rfl) rfl d_Model_ending_63 ?_
          refine lv_sipush (v := 20000) hx hb d_Model_ending_66 (by decide) ?_
          refine lv_icmp_ne (tgt := 77) hx hb d_Model_ending_69 (by decide) (fun c_69 => ?_) (fun c_69 => ?_)
          · rw [if_neg c_69]
            refine lv_iconst (v := 2) hx hb d_Model_ending_77 (by decide) ?_
            exact zc_iret X hr hlocks hB (by rfl) (by rfl) (by rfl) d_Model_ending_78
          · rw [if_pos c_69]
            refine lv_bipush (v := (-3)) hx hb d_Model_ending_72 (by decide) ?_
            refine lv_goto (tgt := 78) hx hb d_Model_ending_74 (by decide) ?_
            exact zc_iret X hr hlocks hB (by rfl) (by rfl) (by rfl) d_Model_ending_78
        · rw [if_neg c_54]
          refine lv_bipush (v := (-2)) hx hb d_Model_ending_57 (by decide) ?_
          refine lv_goto (tgt := 78) hx hb d_Model_ending_59 (by decide) ?_
          exact zc_iret X hr hlocks hB (by rfl) (by rfl) (by rfl) d_Model_ending_78
      · rw [if_pos c_42]
        refine lv_iconst (v := (-1)) hx hb d_Model_ending_45 (by decide) ?_
        refine lv_goto (tgt := 78) hx hb d_Model_ending_46 (by decide) ?_
        exact zc_iret X hr hlocks hB (by rfl) (by rfl) (by rfl) d_Model_ending_78
    · rw [if_neg c_20]
      refine lv_aload_n hx hb d_Model_ending_23 rfl (lv_at hl 0 rfl) ?_
      refine lv_aload_n hx hb d_Model_ending_24 rfl (lv_at hl 0 rfl) ?_
      refine zw_getI X hB fl_Model_99 32 (hm 32 _ rfl) rfl d_Model_ending_25 ?_
      refine zw_callVr X hB mv_Model_148 32 (hm 32 _ rfl) rfl (c_Model_isFinished hm z mi ml (mi 32 16) (hE.2.2.1.elim (fun e => absurd e c_20) id)) rfl hl.1 ⟨Nat.le_of_ble_eq_true rfl, Nat.le_of_ble_eq_true rfl⟩ rfl (Nat.le_of_ble_eq_true rfl) ⟨Nat.le_of_ble_eq_true rfl, Nat.le_of_ble_eq_true rfl⟩ d_Model_ending_28 (fun H locs hB => ?_)
      refine lv_if_eq (tgt := 38) hx hb d_Model_ending_31 (by decide) (fun c_31 => ?_) (fun c_31 => ?_)
      · rw [if_pos c_31]
        unfold q_end2
        refine lv_aload_n hx hb d_Model_ending_38 rfl (lv_at hl 0 rfl) ?_
        refine zw_getI X hB fl_Model_141 32 (hm 32 _ rfl) rfl d_Model_ending_39 ?_
        refine lv_if_ne (tgt := 49) hx hb d_Model_ending_42 (by decide) (fun c_42 => ?_) (fun c_42 => ?_)
        · rw [if_neg c_42]
          refine lv_aload_n hx hb d_Model_ending_49 rfl (lv_at hl 0 rfl) ?_
          refine lv_iload_n hx hb d_Model_ending_50 rfl (lv_at hl 1 rfl) ?_
          refine zw_callVr X hB mv_Model_151 32 (hm 32 _ rfl) rfl (c_Model_isStuck hm z mi ml wk w hw ew hE) rfl hl.1 ⟨Nat.le_of_ble_eq_true rfl, Nat.le_of_ble_eq_true rfl⟩ rfl (Nat.le_of_ble_eq_true rfl) ⟨Nat.le_of_ble_eq_true rfl, Nat.le_of_ble_eq_true rfl⟩ d_Model_ending_51 (fun H locs hB => ?_)
          refine lv_if_eq (tgt := 62) hx hb d_Model_ending_54 (by decide) (fun c_54 => ?_) (fun c_54 => ?_)
          · rw [if_pos c_54]
            refine lv_aload_n hx hb d_Model_ending_62 rfl (lv_at hl 0 rfl) ?_
            refine zw_getI X hB fl_Model_154 32 (hm 32 _ rfl) rfl d_Model_ending_63 ?_
            refine lv_sipush (v := 20000) hx hb d_Model_ending_66 (by decide) ?_
            refine lv_icmp_ne (tgt := 77) hx hb d_Model_ending_69 (by decide) (fun c_69 => ?_) (fun c_69 => ?_)
            · rw [if_neg c_69]
              refine lv_iconst (v := 2) hx hb d_Model_ending_77 (by decide) ?_
              exact zc_iret X hr hlocks hB (by rfl) (by rfl) (by rfl) d_Model_ending_78
            · rw [if_pos c_69]
              refine lv_bipush (v := (-3)) hx hb d_Model_ending_72 (by decide) ?_
              refine lv_goto (tgt := 78) hx hb d_Model_ending_74 (by decide) ?_
              exact zc_iret X hr hlocks hB (by rfl) (by rfl) (by rfl) d_Model_ending_78
          · rw [if_neg c_54]
            refine lv_bipush (v := (-2)) hx hb d_Model_ending_57 (by decide) ?_
            refine lv_goto (tgt := 78) hx hb d_Model_ending_59 (by decide) ?_
            exact zc_iret X hr hlocks hB (by rfl) (by rfl) (by rfl) d_Model_ending_78
        · rw [if_pos c_42]
          refine lv_iconst (v := (-1)) hx hb d_Model_ending_45 (by decide) ?_
          refine lv_goto (tgt := 78) hx hb d_Model_ending_46 (by decide) ?_
          exact zc_iret X hr hlocks hB (by rfl) (by rfl) (by rfl) d_Model_ending_78
      · rw [if_neg c_31]
        refine lv_iconst (v := 1) hx hb d_Model_ending_34 (by decide) ?_
        refine lv_goto (tgt := 78) hx hb d_Model_ending_35 (by decide) ?_
        exact zc_iret X hr hlocks hB (by rfl) (by rfl) (by rfl) d_Model_ending_78
  · rw [if_pos c_8]
    refine lv_iconst (v := 0) hx hb d_Model_ending_11 (by decide) ?_
    refine lv_goto (tgt := 78) hx hb d_Model_ending_12 (by decide) ?_
    exact zc_iret X hr hlocks hB (by rfl) (by rfl) (by rfl) d_Model_ending_78

set_option maxHeartbeats 4000000 in
set_option maxRecDepth 100000 in
theorem c_Model_begin {l : Launch} {D : va_G} {cA : Nat → ClassId} {ad : Nat → Nat} {sh : zw_Sh} (hm : ∀ (k : Nat) (q : zw_Sp), shM k = some q → sh k = some q) (z : Nat) (mi : zw_I) (ml : zw_L) (wk : Int32) {n : Nat} (hn : n ≤ 16) (en : mi 32 1 = nI n) (w : Nat) (hw : w ≤ 16) (ew : wk = nI w) (w8 : Nat) (hw8 : w8 ≤ 8) (ew8 : mi 32 15 = nI w8) :
    zc_M l D cA Y_Model_begin 0 0 0 ad sh sh z [.ref (ad 32), .int wk] mi ml none ((q_begin wk mi ml).1) ((q_begin wk mi ml).2) z := by
  refine zc_enter (own := R_Model) (by decide) rfl (Nat.le_of_ble_eq_true rfl) ?_
  intro p e s m below meth c X hr hlocks hnm hB ls hl
  have X : zw_C D cA R_Model prog_9_method_19_code 3 p m c s := X
  have hr : meth.sig.returnType = none := hr
  have hx := X.1
  have hb := X.2.1
  have hl : lv_has ls 3 [(0, .ref (ad 32)), (1, .int wk)] := hl
  have loop4 : ∀ (f i : Nat) (mi : zw_I) (ml : zw_L) (H : Heap) (locs : List Loc) (ls : Array Slot), i + f = 9 → i ≤ w8 → mi 32 15 = nI w8 → zw_B D cA ad sh (zw_A ad sh z) s.heap mi ml z H locs → lv_has ls 3 [(2, .int (nI i)), (0, .ref (ad 32)), (1, .int wk)] →
      zc_W l D cA ad sh sh z [.ref (ad 32), .int wk] 0 0 0 none (q_beg5 wk (q_beg4 f (nI i) mi)) ml z p e s m below meth c H locs 0 0 (F0 m 96 ls []) := by
    intro f
    induction f with
    | zero =>
      intro i  mi ml H locs ls hi h2 ew8 hB hl
      omega
    | succ f ih =>
      intro i  mi ml H locs ls hi h2 ew8 hB hl
      rw [q_beg4]
      refine lv_iload_n hx hb d_Model_begin_96 rfl (lv_at hl 0 rfl) ?_
      refine lv_aload_n hx hb d_Model_begin_97 rfl (lv_at hl 1 rfl) ?_
      refine zw_getI X hB fl_Model_96 32 (hm 32 _ rfl) rfl d_Model_begin_98 ?_
      refine lv_icmp_ge (tgt := 122) hx hb d_Model_begin_101 (by decide) (fun c_101 => ?_) (fun c_101 => ?_)
      · rw [if_pos c_101]
        refine lv_aload_n hx hb d_Model_begin_122 rfl (lv_at hl 1 rfl) ?_
        refine lv_aload_n hx hb d_Model_begin_123 rfl (lv_at hl 1 rfl) ?_
        refine zw_getI X hB fl_Model_75 32 (hm 32 _ rfl) rfl d_Model_begin_124 ?_
        refine zw_putI X hB fp_Model_102 (fun h => by cases h) 32 (hm 32 _ rfl) rfl d_Model_begin_127 (fun H locs hB => ?_)
        obtain ⟨mi_1, emi_1⟩ : ∃ y, y = zw_up mi 32 23 (mi 32 1) := ⟨_, rfl⟩
        rw [← emi_1] at hB
        refine lv_aload_n hx hb d_Model_begin_130 rfl (lv_at hl 1 rfl) ?_
        refine lv_iconst (v := 0) hx hb d_Model_begin_131 (by decide) ?_
        refine zw_putI X hB fp_Model_105 (fun h => by cases h) 32 (hm 32 _ rfl) rfl d_Model_begin_132 (fun H locs hB => ?_)
        obtain ⟨mi_2, emi_2⟩ : ∃ y, y = zw_up mi_1 32 24 0 := ⟨_, rfl⟩
        rw [← emi_2] at hB
        refine lv_aload_n hx hb d_Model_begin_135 rfl (lv_at hl 1 rfl) ?_
        refine lv_iload_n hx hb d_Model_begin_136 rfl (lv_at hl 2 rfl) ?_
        refine zw_putI X hB fp_Model_141 (fun h => by cases h) 32 (hm 32 _ rfl) rfl d_Model_begin_137 (fun H locs hB => ?_)
        obtain ⟨mi_3, emi_3⟩ : ∃ y, y = zw_up mi_2 32 25 wk := ⟨_, rfl⟩
        rw [← emi_3] at hB
        refine lv_aload_n hx hb d_Model_begin_140 rfl (lv_at hl 1 rfl) ?_
        refine lv_iconst (v := 0) hx hb d_Model_begin_141 (by decide) ?_
        refine zw_putI X hB fp_Model_116 (fun h => by cases h) 32 (hm 32 _ rfl) rfl d_Model_begin_142 (fun H locs hB => ?_)
        obtain ⟨mi_4, emi_4⟩ : ∃ y, y = zw_up mi_3 32 29 0 := ⟨_, rfl⟩
        rw [← emi_4] at hB
        refine lv_aload_n hx hb d_Model_begin_145 rfl (lv_at hl 1 rfl) ?_
        refine lv_iconst (v := 0) hx hb d_Model_begin_146 (by decide) ?_
        refine zw_putI X hB fp_Model_154 (fun h => by cases h) 32 (hm 32 _ rfl) rfl d_Model_begin_147 (fun H locs hB => ?_)
        obtain ⟨mi_5, emi_5⟩ : ∃ y, y = zw_up mi_4 32 30 0 := ⟨_, rfl⟩
        rw [← emi_5] at hB
        refine lv_aload_n hx hb d_Model_begin_150 rfl (lv_at hl 1 rfl) ?_
        refine lv_iconst (v := 0) hx hb d_Model_begin_151 (by decide) ?_
        refine zw_putI X hB fp_Model_127 (fun h => by cases h) 32 (hm 32 _ rfl) rfl d_Model_begin_152 (fun H locs hB => ?_)
        obtain ⟨mi_6, emi_6⟩ : ∃ y, y = zw_up mi_5 32 31 0 := ⟨_, rfl⟩
        rw [← emi_6] at hB
        refine lv_aload_n hx hb d_Model_begin_155 rfl (lv_at hl 1 rfl) ?_
        refine lv_iconst (v := 0) hx hb d_Model_begin_156 (by decide) ?_
        refine zw_putI X hB fp_Model_134 (fun h => by cases h) 32 (hm 32 _ rfl) rfl d_Model_begin_157 (fun H locs hB => ?_)
        obtain ⟨mi_7, emi_7⟩ : ∃ y, y = zw_up mi_6 32 32 0 := ⟨_, rfl⟩
        rw [← emi_7] at hB
        refine lv_aload_n hx hb d_Model_begin_160 rfl (lv_at hl 1 rfl) ?_
        refine lv_iconst (v := 0) hx hb d_Model_begin_161 (by decide) ?_
        refine zw_putI X hB fp_Model_113 (fun h => by cases h) 32 (hm 32 _ rfl) rfl d_Model_begin_162 (fun H locs hB => ?_)
        obtain ⟨mi_8, emi_8⟩ : ∃ y, y = zw_up mi_7 32 33 0 := ⟨_, rfl⟩
        rw [← emi_8] at hB
        refine lv_aload_n hx hb d_Model_begin_165 rfl (lv_at hl 1 rfl) ?_
        refine lv_iconst (v := 0) hx hb d_Model_begin_166 (by decide) ?_
        refine zw_putI X hB fp_Model_108 (fun h => by cases h) 32 (hm 32 _ rfl) rfl d_Model_begin_167 (fun H locs hB => ?_)
        obtain ⟨mi_9, emi_9⟩ : ∃ y, y = zw_up mi_8 32 34 0 := ⟨_, rfl⟩
        rw [← emi_9] at hB
        exact zc_vret X hr hlocks hB (by subst emi_9; subst emi_8; subst emi_7; subst emi_6; subst emi_5; subst emi_4; subst emi_3; subst emi_2; subst emi_1; rfl) (by subst emi_9; subst emi_8; subst emi_7; subst emi_6; subst emi_5; subst emi_4; subst emi_3; subst emi_2; subst emi_1; rfl) (by subst emi_9; subst emi_8; subst emi_7; subst emi_6; subst emi_5; subst emi_4; subst emi_3; subst emi_2; subst emi_1; rfl) d_Model_begin_170
      · rw [if_neg c_101]
        have hlt : i < w8 := zn_lt (by omega) (by rw [← ew8]; exact c_101)
        have hin : vp_in (nI i) 8 := vp_in_nI (by omega) (by decide)
        refine lv_aload_n hx hb d_Model_begin_104 rfl (lv_at hl 1 rfl) ?_
        refine zw_getR X hB fl_Model_44 32 (hm 32 _ rfl) rfl d_Model_begin_105 ?_
        refine lv_iload_n hx hb d_Model_begin_108 rfl (lv_at hl 0 rfl) ?_
        refine lv_aload_n hx hb d_Model_begin_109 rfl (lv_at hl 1 rfl) ?_
        refine zw_getR X hB fl_Model_41 32 (hm 32 _ rfl) rfl d_Model_begin_110 ?_
        refine lv_iload_n hx hb d_Model_begin_113 rfl (lv_at hl 0 rfl) ?_
        refine zw_iald X hB 43 (hm 43 _ rfl) hin d_Model_begin_114 ?_
        refine zw_iast X hB 44 (hm 44 _ rfl) hin d_Model_begin_115 (fun H locs hB => ?_)
        obtain ⟨mi_10, emi_10⟩ : ∃ y, y = zw_up mi 44 (nI i).toNatClampNeg (mi 43 (nI i).toNatClampNeg) := ⟨_, rfl⟩
        rw [← emi_10] at hB
        refine lv_iinc (v := nI (i + 1)) (lv' := [(2, .int (nI (i + 1))), (0, .ref (ad 32)), (1, .int wk)]) hx hb d_Model_begin_116 hl (k := 0) rfl (nI_1 i) (by decide) rfl (fun ls hl => ?_)
        refine lv_goto (tgt := 96) hx hb d_Model_begin_119 (by decide) ?_
        subst emi_10
        rw [nI_1 i]
        exact ih (i + 1)  _ _ H locs ls (by omega) (by omega) (by simpa [zw_up] using ew8) hB (lv_sub hl [0, 1, 2] rfl)
  have loop3 : ∀ (f i : Nat) (mi : zw_I) (ml : zw_L) (H : Heap) (locs : List Loc) (ls : Array Slot), i + f = 17 → i ≤ w → mi 32 15 = nI w8 → zw_B D cA ad sh (zw_A ad sh z) s.heap mi ml z H locs → lv_has ls 3 [(2, .int (nI i)), (0, .ref (ad 32)), (1, .int wk)] →
      zc_W l D cA ad sh sh z [.ref (ad 32), .int wk] 0 0 0 none (q_beg5 wk (q_beg4 9 0 (q_beg3 wk f (nI i) mi))) ml z p e s m below meth c H locs 0 0 (F0 m 76 ls []) := by
    intro f
    induction f with
    | zero =>
      intro i  mi ml H locs ls hi h2 ew8 hB hl
      omega
    | succ f ih =>
      intro i  mi ml H locs ls hi h2 ew8 hB hl
      rw [q_beg3]
      refine lv_iload_n hx hb d_Model_begin_76 rfl (lv_at hl 0 rfl) ?_
      refine lv_iload_n hx hb d_Model_begin_77 rfl (lv_at hl 2 rfl) ?_
      refine lv_icmp_ge (tgt := 94) hx hb d_Model_begin_78 (by decide) (fun c_78 => ?_) (fun c_78 => ?_)
      · rw [if_pos c_78]
        refine lv_iconst (v := 0) hx hb d_Model_begin_94 (by decide) ?_
        refine lv_istore_n (lv' := [(2, .int 0), (0, .ref (ad 32)), (1, .int wk)]) hx hb d_Model_begin_95 rfl hl (by decide) rfl (fun ls hl => ?_)
        exact loop4 9 0 _ _ _ _ ls rfl (by omega) ew8 hB (lv_sub hl [0, 1, 2] rfl)
      · rw [if_neg c_78]
        have hlt : i < w := zn_lt (by omega) (by rw [← ew]; exact c_78)
        have hin : vp_in (nI i) 16 := vp_in_nI (by omega) (by decide)
        refine lv_aload_n hx hb d_Model_begin_81 rfl (lv_at hl 1 rfl) ?_
        refine zw_getR X hB fl_Model_60 32 (hm 32 _ rfl) rfl d_Model_begin_82 ?_
        refine lv_iload_n hx hb d_Model_begin_85 rfl (lv_at hl 0 rfl) ?_
        refine lv_iconst (v := (-1)) hx hb d_Model_begin_86 (by decide) ?_
        refine zw_iast X hB 49 (hm 49 _ rfl) hin d_Model_begin_87 (fun H locs hB => ?_)
        obtain ⟨mi_1, emi_1⟩ : ∃ y, y = zw_up mi 49 (nI i).toNatClampNeg (-1) := ⟨_, rfl⟩
        rw [← emi_1] at hB
        refine lv_iinc (v := nI (i + 1)) (lv' := [(2, .int (nI (i + 1))), (0, .ref (ad 32)), (1, .int wk)]) hx hb d_Model_begin_88 hl (k := 0) rfl (nI_1 i) (by decide) rfl (fun ls hl => ?_)
        refine lv_goto (tgt := 76) hx hb d_Model_begin_91 (by decide) ?_
        subst emi_1
        rw [nI_1 i]
        exact ih (i + 1)  _ _ H locs ls (by omega) (by omega) (by simpa [zw_up] using ew8) hB (lv_sub hl [0, 1, 2] rfl)
  have loop2 : ∀ (f i : Nat) (mi : zw_I) (ml : zw_L) (H : Heap) (locs : List Loc) (ls : Array Slot), i + f = 257 → i ≤ 256 → mi 32 15 = nI w8 → zw_B D cA ad sh (zw_A ad sh z) s.heap mi ml z H locs → lv_has ls 3 [(2, .int (nI i)), (0, .ref (ad 32)), (1, .int wk)] →
      zc_W l D cA ad sh sh z [.ref (ad 32), .int wk] 0 0 0 none (q_beg5 wk (q_beg4 9 0 (q_beg3 wk 17 0 (q_beg2 f (nI i) mi)))) ml z p e s m below meth c H locs 0 0 (F0 m 54 ls []) := by
    intro f
    induction f with
    | zero =>
      intro i  mi ml H locs ls hi h2 ew8 hB hl
      omega
    | succ f ih =>
      intro i  mi ml H locs ls hi h2 ew8 hB hl
      rw [q_beg2]
      refine lv_iload_n hx hb d_Model_begin_54 rfl (lv_at hl 0 rfl) ?_
      refine lv_sipush (v := 256) hx hb d_Model_begin_55 (by decide) ?_
      refine lv_icmp_ge (tgt := 74) hx hb d_Model_begin_58 (by decide) (fun c_58 => ?_) (fun c_58 => ?_)
      · rw [if_pos c_58]
        refine lv_iconst (v := 0) hx hb d_Model_begin_74 (by decide) ?_
        refine lv_istore_n (lv' := [(2, .int 0), (0, .ref (ad 32)), (1, .int wk)]) hx hb d_Model_begin_75 rfl hl (by decide) rfl (fun ls hl => ?_)
        exact loop3 17 0 _ _ _ _ ls rfl (by omega) ew8 hB (lv_sub hl [0, 1, 2] rfl)
      · rw [if_neg c_58]
        have hlt : i < 256 := zn_lt (a := 256) (by omega) c_58
        have hin : vp_in (nI i) 256 := vp_in_nI hlt (by decide)
        refine lv_aload_n hx hb d_Model_begin_61 rfl (lv_at hl 1 rfl) ?_
        refine zw_getR X hB fl_Model_72 32 (hm 32 _ rfl) rfl d_Model_begin_62 ?_
        refine lv_iload_n hx hb d_Model_begin_65 rfl (lv_at hl 0 rfl) ?_
        refine lv_iconst (v := 0) hx hb d_Model_begin_66 (by decide) ?_
        refine zw_iast X hB 53 (hm 53 _ rfl) hin d_Model_begin_67 (fun H locs hB => ?_)
        obtain ⟨mi_1, emi_1⟩ : ∃ y, y = zw_up mi 53 (nI i).toNatClampNeg 0 := ⟨_, rfl⟩
        rw [← emi_1] at hB
        refine lv_iinc (v := nI (i + 1)) (lv' := [(2, .int (nI (i + 1))), (0, .ref (ad 32)), (1, .int wk)]) hx hb d_Model_begin_68 hl (k := 0) rfl (nI_1 i) (by decide) rfl (fun ls hl => ?_)
        refine lv_goto (tgt := 54) hx hb d_Model_begin_71 (by decide) ?_
        subst emi_1
        rw [nI_1 i]
        exact ih (i + 1)  _ _ H locs ls (by omega) (by omega) (by simpa [zw_up] using ew8) hB (lv_sub hl [0, 1, 2] rfl)
  have loop1 : ∀ (f i : Nat) (mi : zw_I) (ml : zw_L) (H : Heap) (locs : List Loc) (ls : Array Slot), i + f = 17 → i ≤ n → mi 32 1 = nI n → mi 32 15 = nI w8 → zw_B D cA ad sh (zw_A ad sh z) s.heap mi ml z H locs → lv_has ls 3 [(2, .int (nI i)), (0, .ref (ad 32)), (1, .int wk)] →
      zc_W l D cA ad sh sh z [.ref (ad 32), .int wk] 0 0 0 none (q_begZ wk (q_beg1 f (nI i) mi ml).1) ((q_beg1 f (nI i) mi ml).2) z p e s m below meth c H locs 0 0 (F0 m 2 ls []) := by
    intro f
    induction f with
    | zero =>
      intro i  mi ml H locs ls hi h2 en ew8 hB hl
      omega
    | succ f ih =>
      intro i  mi ml H locs ls hi h2 en ew8 hB hl
      rw [q_beg1]
      refine lv_iload_n hx hb d_Model_begin_2 rfl (lv_at hl 0 rfl) ?_
      refine lv_aload_n hx hb d_Model_begin_3 rfl (lv_at hl 1 rfl) ?_
      refine zw_getI X hB fl_Model_75 32 (hm 32 _ rfl) rfl d_Model_begin_4 ?_
      refine lv_icmp_ge (tgt := 52) hx hb d_Model_begin_7 (by decide) (fun c_7 => ?_) (fun c_7 => ?_)
      · rw [if_pos c_7]
        refine lv_iconst (v := 0) hx hb d_Model_begin_52 (by decide) ?_
        refine lv_istore_n (lv' := [(2, .int 0), (0, .ref (ad 32)), (1, .int wk)]) hx hb d_Model_begin_53 rfl hl (by decide) rfl (fun ls hl => ?_)
        exact loop2 257 0 _ _ _ _ ls rfl (by omega) ew8 hB (lv_sub hl [0, 1, 2] rfl)
      · rw [if_neg c_7]
        have hlt : i < n := zn_lt (by omega) (by rw [← en]; exact c_7)
        have hin : vp_in (nI i) 16 := vp_in_nI (by omega) (by decide)
        refine lv_aload_n hx hb d_Model_begin_10 rfl (lv_at hl 1 rfl) ?_
        refine zw_getR X hB fl_Model_57 32 (hm 32 _ rfl) rfl d_Model_begin_11 ?_
        refine lv_iload_n hx hb d_Model_begin_14 rfl (lv_at hl 0 rfl) ?_
        refine lv_iconst (v := 0) hx hb d_Model_begin_15 (by decide) ?_
        refine zw_iast X hB 48 (hm 48 _ rfl) hin d_Model_begin_16 (fun H locs hB => ?_)
        obtain ⟨mi_1, emi_1⟩ : ∃ y, y = zw_up mi 48 (nI i).toNatClampNeg 0 := ⟨_, rfl⟩
        rw [← emi_1] at hB
        refine lv_aload_n hx hb d_Model_begin_17 rfl (lv_at hl 1 rfl) ?_
        refine zw_getR X hB fl_Model_69 32 (hm 32 _ rfl) rfl d_Model_begin_18 ?_
        refine lv_iload_n hx hb d_Model_begin_21 rfl (lv_at hl 0 rfl) ?_
        refine lv_iconst (v := 0) hx hb d_Model_begin_22 (by decide) ?_
        refine zw_iast X hB 52 (hm 52 _ rfl) hin d_Model_begin_23 (fun H locs hB => ?_)
        obtain ⟨mi_2, emi_2⟩ : ∃ y, y = zw_up mi_1 52 (nI i).toNatClampNeg 0 := ⟨_, rfl⟩
        rw [← emi_2] at hB
        refine lv_aload_n hx hb d_Model_begin_24 rfl (lv_at hl 1 rfl) ?_
        refine zw_getR X hB fl_Model_63 32 (hm 32 _ rfl) rfl d_Model_begin_25 ?_
        refine lv_iload_n hx hb d_Model_begin_28 rfl (lv_at hl 0 rfl) ?_
        refine lv_iload_n hx hb d_Model_begin_29 rfl (lv_at hl 0 rfl) ?_
        refine zw_iast X hB 50 (hm 50 _ rfl) hin d_Model_begin_30 (fun H locs hB => ?_)
        obtain ⟨mi_3, emi_3⟩ : ∃ y, y = zw_up mi_2 50 (nI i).toNatClampNeg (nI i) := ⟨_, rfl⟩
        rw [← emi_3] at hB
        refine lv_aload_n hx hb d_Model_begin_31 rfl (lv_at hl 1 rfl) ?_
        refine zw_getR X hB fl_Model_54 32 (hm 32 _ rfl) rfl d_Model_begin_32 ?_
        refine lv_bipush (v := 21) hx hb d_Model_begin_35 (by decide) ?_
        refine lv_iload_n hx hb d_Model_begin_37 rfl (lv_at hl 0 rfl) ?_
        refine lv_imul hx hb d_Model_begin_38 ?_
        refine lv_aload_n hx hb d_Model_begin_39 rfl (lv_at hl 1 rfl) ?_
        refine zw_getR X hB fl_Model_16 32 (hm 32 _ rfl) rfl d_Model_begin_40 ?_
        refine lv_iload_n hx hb d_Model_begin_43 rfl (lv_at hl 0 rfl) ?_
        refine zw_lald X hB 35 (hm 35 _ rfl) hin d_Model_begin_44 ?_
        refine zw_last X hB 47 (hm 47 _ rfl) (zm_210 hin) d_Model_begin_45 (fun H locs hB => ?_)
        obtain ⟨ml_4, eml_4⟩ : ∃ y, y = zw_up ml 47 (21 * (nI i)).toNatClampNeg (ml 35 (nI i).toNatClampNeg) := ⟨_, rfl⟩
        rw [← eml_4] at hB
        refine lv_iinc (v := nI (i + 1)) (lv' := [(2, .int (nI (i + 1))), (0, .ref (ad 32)), (1, .int wk)]) hx hb d_Model_begin_46 hl (k := 0) rfl (nI_1 i) (by decide) rfl (fun ls hl => ?_)
        refine lv_goto (tgt := 2) hx hb d_Model_begin_49 (by decide) ?_
        subst eml_4
        subst emi_3
        subst emi_2
        subst emi_1
        rw [nI_1 i]
        exact ih (i + 1)  _ _ H locs ls (by omega) (by omega) (by simpa [zw_up] using en) (by simpa [zw_up] using ew8) hB (lv_sub hl [0, 1, 2] rfl)
  refine lv_iconst (v := 0) hx hb d_Model_begin_0 (by decide) ?_
  refine lv_istore_n (lv' := [(2, .int 0), (0, .ref (ad 32)), (1, .int wk)]) hx hb d_Model_begin_1 rfl hl (by decide) rfl (fun ls hl => ?_)
  exact loop1 17 0 _ _ _ _ ls rfl (by omega) en ew8 hB (lv_sub hl [0, 1, 2] rfl)

set_option maxHeartbeats 4000000 in
set_option maxRecDepth 100000 in
theorem c_Model_at {l : Launch} {D : va_G} {cA : Nat → ClassId} {ad : Nat → Nat} {sh : zw_Sh} (hm : ∀ (k : Nat) (q : zw_Sp), shM k = some q → sh k = some q) (z : Nat) (mi : zw_I) (ml : zw_L) (x : Int32) (h1 : ¬ q_isShare mi x = 0 → vp_in x 16) :
    zc_M l D cA Y_Model_at 1 0 0 ad sh sh z [.ref (ad 32), .int x] mi ml (some (.long ((q_at mi ml x).1))) ((q_at mi ml x).2) ml z := by
  refine zc_enter (own := R_Model) (by decide) rfl (Nat.le_of_ble_eq_true rfl) ?_
  intro p e s m below meth c X hr hlocks hnm hB ls hl
  have X : zw_C D cA R_Model prog_9_method_21_code 2 p m c s := X
  have hr : meth.sig.returnType = (some FieldType.long) := hr
  have hx := X.1
  have hb := X.2.1
  have hl : lv_has ls 2 [(0, .ref (ad 32)), (1, .int x)] := hl
  unfold q_at
  refine lv_aload_n hx hb d_Model_at_0 rfl (lv_at hl 0 rfl) ?_
  refine lv_aload_n hx hb d_Model_at_1 rfl (lv_at hl 0 rfl) ?_
  refine lv_iload_n hx hb d_Model_at_2 rfl (lv_at hl 1 rfl) ?_
  refine zw_callVr X hB mv_Model_88 32 (hm 32 _ rfl) rfl (c_Model_isShare hm z mi ml x) rfl hl.1 ⟨Nat.le_of_ble_eq_true rfl, Nat.le_of_ble_eq_true rfl⟩ rfl (Nat.le_of_ble_eq_true rfl) ⟨Nat.le_of_ble_eq_true rfl, Nat.le_of_ble_eq_true rfl⟩ d_Model_at_3 (fun H locs hB => ?_)
  refine lv_if_ne (tgt := 13) hx hb d_Model_at_6 (by decide) (fun c_6 => ?_) (fun c_6 => ?_)
  · rw [if_neg c_6]
    refine lv_aload_n hx hb d_Model_at_13 rfl (lv_at hl 0 rfl) ?_
    refine zw_getR X hB fl_Model_47 32 (hm 32 _ rfl) rfl d_Model_at_14 ?_
    refine lv_iload_n hx hb d_Model_at_17 rfl (lv_at hl 1 rfl) ?_
    refine zw_zald X hB 45 (hm 45 _ rfl) (h1 c_6) d_Model_at_18 ?_
    refine lv_if_ne (tgt := 26) hx hb d_Model_at_19 (by decide) (fun c_19 => ?_) (fun c_19 => ?_)
    · rw [if_neg c_19]
      refine lv_iconst (v := 0) hx hb d_Model_at_26 (by decide) ?_
      refine zw_putI X hB fp_Model_85 (fun h => by cases h) 32 (hm 32 _ rfl) rfl d_Model_at_27 (fun H locs hB => ?_)
      obtain ⟨mi_1, emi_1⟩ : ∃ y, y = zw_up mi 32 0 0 := ⟨_, rfl⟩
      rw [← emi_1] at hB
      refine lv_aload_n hx hb d_Model_at_30 rfl (lv_at hl 0 rfl) ?_
      refine zw_getI X hB fl_Model_85 32 (hm 32 _ rfl) rfl d_Model_at_31 ?_
      refine lv_if_le (tgt := 41) hx hb d_Model_at_34 (by decide) (fun c_34 => ?_) (fun c_34 => ?_)
      · refine lv_aload_n hx hb d_Model_at_41 rfl (lv_at hl 0 rfl) ?_
        refine zw_getR X hB fl_Model_51 32 (hm 32 _ rfl) rfl d_Model_at_42 ?_
        refine lv_iload_n hx hb d_Model_at_45 rfl (lv_at hl 1 rfl) ?_
        refine zw_lald X hB 46 (hm 46 _ rfl) (h1 c_6) d_Model_at_46 ?_
        exact zc_lret X hr hlocks hB (by subst emi_1; rfl) (by subst emi_1; rfl) (by subst emi_1; rfl) d_Model_at_47
      · exact absurd (by rw [emi_1, zw_up_self]; decide) c_34
    · rw [if_pos c_19]
      refine lv_iconst (v := 2) hx hb d_Model_at_22 (by decide) ?_
      refine lv_goto (tgt := 27) hx hb d_Model_at_23 (by decide) ?_
      refine zw_putI X hB fp_Model_85 (fun h => by cases h) 32 (hm 32 _ rfl) rfl d_Model_at_27 (fun H locs hB => ?_)
      obtain ⟨mi_2, emi_2⟩ : ∃ y, y = zw_up mi 32 0 2 := ⟨_, rfl⟩
      rw [← emi_2] at hB
      refine lv_aload_n hx hb d_Model_at_30 rfl (lv_at hl 0 rfl) ?_
      refine zw_getI X hB fl_Model_85 32 (hm 32 _ rfl) rfl d_Model_at_31 ?_
      refine lv_if_le (tgt := 41) hx hb d_Model_at_34 (by decide) (fun c_34 => ?_) (fun c_34 => ?_)
      · exact absurd c_34 (by rw [emi_2, zw_up_self]; decide)
      · refine lv_lconst (v := 0) hx hb d_Model_at_37 (by decide) ?_
        refine lv_goto (tgt := 47) hx hb d_Model_at_38 (by decide) ?_
        exact zc_lret X hr hlocks hB (by subst emi_2; rfl) (by subst emi_2; rfl) (by subst emi_2; rfl) d_Model_at_47
  · rw [if_pos c_6]
    refine lv_iconst (v := 1) hx hb d_Model_at_9 (by decide) ?_
    refine lv_goto (tgt := 27) hx hb d_Model_at_10 (by decide) ?_
    refine zw_putI X hB fp_Model_85 (fun h => by cases h) 32 (hm 32 _ rfl) rfl d_Model_at_27 (fun H locs hB => ?_)
    obtain ⟨mi_3, emi_3⟩ : ∃ y, y = zw_up mi 32 0 1 := ⟨_, rfl⟩
    rw [← emi_3] at hB
    refine lv_aload_n hx hb d_Model_at_30 rfl (lv_at hl 0 rfl) ?_
    refine zw_getI X hB fl_Model_85 32 (hm 32 _ rfl) rfl d_Model_at_31 ?_
    refine lv_if_le (tgt := 41) hx hb d_Model_at_34 (by decide) (fun c_34 => ?_) (fun c_34 => ?_)
    · exact absurd c_34 (by rw [emi_3, zw_up_self]; decide)
    · refine lv_lconst (v := 0) hx hb d_Model_at_37 (by decide) ?_
      refine lv_goto (tgt := 47) hx hb d_Model_at_38 (by decide) ?_
      exact zc_lret X hr hlocks hB (by subst emi_3; rfl) (by subst emi_3; rfl) (by subst emi_3; rfl) d_Model_at_47

set_option maxHeartbeats 4000000 in
set_option maxRecDepth 100000 in
theorem c_Model_order {l : Launch} {D : va_G} {cA : Nat → ClassId} {ad : Nat → Nat} {sh : zw_Sh} (hm : ∀ (k : Nat) (q : zw_Sp), shM k = some q → sh k = some q) (z : Nat) (mi : zw_I) (ml : zw_L) (x : Int32) (h1 : ¬ p_within x 0 (mi 32 29 - 1) = 0 → vp_in x 16) :
    zc_M l D cA Y_Model_order 1 0 0 ad sh sh z [.ref (ad 32), .int x] mi ml (some (.int ((q_order mi x).1))) ((q_order mi x).2) ml z := by
  refine zc_enter (own := R_Model) (by decide) rfl (Nat.le_of_ble_eq_true rfl) ?_
  intro p e s m below meth c X hr hlocks hnm hB ls hl
  have X : zw_C D cA R_Model prog_9_method_22_code 2 p m c s := X
  have hr : meth.sig.returnType = (some FieldType.int) := hr
  have hx := X.1
  have hb := X.2.1
  have hl : lv_has ls 2 [(0, .ref (ad 32)), (1, .int x)] := hl
  unfold q_order
  refine lv_aload_n hx hb d_Model_order_0 rfl (lv_at hl 0 rfl) ?_
  refine lv_iload_n hx hb d_Model_order_1 rfl (lv_at hl 1 rfl) ?_
  refine lv_iconst (v := 0) hx hb d_Model_order_2 (by decide) ?_
  refine lv_aload_n hx hb d_Model_order_3 rfl (lv_at hl 0 rfl) ?_
  refine zw_getI X hB fl_Model_116 32 (hm 32 _ rfl) rfl d_Model_order_4 ?_
  refine lv_iconst (v := 1) hx hb d_Model_order_7 (by decide) ?_
  refine lv_isub hx hb d_Model_order_8 ?_
  refine zw_callSr X hB mv_Model_92 (c_Model_isIn hm z mi ml x 0 ((mi 32 29) - 1)) rfl hl.1 ⟨Nat.le_of_ble_eq_true rfl, Nat.le_of_ble_eq_true rfl⟩ rfl (Nat.le_of_ble_eq_true rfl) ⟨Nat.le_of_ble_eq_true rfl, Nat.le_of_ble_eq_true rfl⟩ d_Model_order_9 (fun H locs hB => ?_)
  refine lv_if_eq (tgt := 19) hx hb d_Model_order_12 (by decide) (fun c_12 => ?_) (fun c_12 => ?_)
  · rw [if_pos c_12]
    refine lv_iconst (v := 1) hx hb d_Model_order_19 (by decide) ?_
    refine zw_putI X hB fp_Model_85 (fun h => by cases h) 32 (hm 32 _ rfl) rfl d_Model_order_20 (fun H locs hB => ?_)
    obtain ⟨mi_1, emi_1⟩ : ∃ y, y = zw_up mi 32 0 1 := ⟨_, rfl⟩
    rw [← emi_1] at hB
    refine lv_aload_n hx hb d_Model_order_23 rfl (lv_at hl 0 rfl) ?_
    refine zw_getI X hB fl_Model_85 32 (hm 32 _ rfl) rfl d_Model_order_24 ?_
    refine lv_if_le (tgt := 34) hx hb d_Model_order_27 (by decide) (fun c_27 => ?_) (fun c_27 => ?_)
    · exact absurd c_27 (by rw [emi_1, zw_up_self]; decide)
    · refine lv_iconst (v := 0) hx hb d_Model_order_30 (by decide) ?_
      refine lv_goto (tgt := 40) hx hb d_Model_order_31 (by decide) ?_
      exact zc_iret X hr hlocks hB (by subst emi_1; rfl) (by subst emi_1; rfl) (by subst emi_1; rfl) d_Model_order_40
  · rw [if_neg c_12]
    refine lv_iconst (v := 0) hx hb d_Model_order_15 (by decide) ?_
    refine lv_goto (tgt := 20) hx hb d_Model_order_16 (by decide) ?_
    refine zw_putI X hB fp_Model_85 (fun h => by cases h) 32 (hm 32 _ rfl) rfl d_Model_order_20 (fun H locs hB => ?_)
    obtain ⟨mi_2, emi_2⟩ : ∃ y, y = zw_up mi 32 0 0 := ⟨_, rfl⟩
    rw [← emi_2] at hB
    refine lv_aload_n hx hb d_Model_order_23 rfl (lv_at hl 0 rfl) ?_
    refine zw_getI X hB fl_Model_85 32 (hm 32 _ rfl) rfl d_Model_order_24 ?_
    refine lv_if_le (tgt := 34) hx hb d_Model_order_27 (by decide) (fun c_27 => ?_) (fun c_27 => ?_)
    · refine lv_aload_n hx hb d_Model_order_34 rfl (lv_at hl 0 rfl) ?_
      refine zw_getR X hB fl_Model_66 32 (hm 32 _ rfl) rfl d_Model_order_35 ?_
      refine lv_iload_n hx hb d_Model_order_38 rfl (lv_at hl 1 rfl) ?_
      refine zw_iald X hB 51 (hm 51 _ rfl) (h1 c_12) d_Model_order_39 ?_
      exact zc_iret X hr hlocks hB (by subst emi_2; rfl) (by subst emi_2; rfl) (by subst emi_2; rfl) d_Model_order_40
    · exact absurd (by rw [emi_2, zw_up_self]; decide) c_27

set_option maxHeartbeats 4000000 in
set_option maxRecDepth 100000 in
theorem c_Model_begun {l : Launch} {D : va_G} {cA : Nat → ClassId} {ad : Nat → Nat} {sh : zw_Sh} (hm : ∀ (k : Nat) (q : zw_Sp), shM k = some q → sh k = some q) (z : Nat) (mi : zw_I) (ml : zw_L) (x : Int32) (h1 : ¬ q_isShare mi x = 0 → vp_in x 16) :
    zc_M l D cA Y_Model_begun 1 0 0 ad sh sh z [.ref (ad 32), .int x] mi ml (some (.int ((q_begun mi x).1))) ((q_begun mi x).2) ml z := by
  refine zc_enter (own := R_Model) (by decide) rfl (Nat.le_of_ble_eq_true rfl) ?_
  intro p e s m below meth c X hr hlocks hnm hB ls hl
  have X : zw_C D cA R_Model prog_9_method_23_code 2 p m c s := X
  have hr : meth.sig.returnType = (some FieldType.int) := hr
  have hx := X.1
  have hb := X.2.1
  have hl : lv_has ls 2 [(0, .ref (ad 32)), (1, .int x)] := hl
  unfold q_begun
  refine lv_aload_n hx hb d_Model_begun_0 rfl (lv_at hl 0 rfl) ?_
  refine lv_aload_n hx hb d_Model_begun_1 rfl (lv_at hl 0 rfl) ?_
  refine lv_iload_n hx hb d_Model_begun_2 rfl (lv_at hl 1 rfl) ?_
  refine zw_callVr X hB mv_Model_88 32 (hm 32 _ rfl) rfl (c_Model_isShare hm z mi ml x) rfl hl.1 ⟨Nat.le_of_ble_eq_true rfl, Nat.le_of_ble_eq_true rfl⟩ rfl (Nat.le_of_ble_eq_true rfl) ⟨Nat.le_of_ble_eq_true rfl, Nat.le_of_ble_eq_true rfl⟩ d_Model_begun_3 (fun H locs hB => ?_)
  refine lv_if_eq (tgt := 13) hx hb d_Model_begun_6 (by decide) (fun c_6 => ?_) (fun c_6 => ?_)
  · rw [if_pos c_6]
    refine lv_iconst (v := 1) hx hb d_Model_begun_13 (by decide) ?_
    refine zw_putI X hB fp_Model_85 (fun h => by cases h) 32 (hm 32 _ rfl) rfl d_Model_begun_14 (fun H locs hB => ?_)
    obtain ⟨mi_1, emi_1⟩ : ∃ y, y = zw_up mi 32 0 1 := ⟨_, rfl⟩
    rw [← emi_1] at hB
    refine lv_aload_n hx hb d_Model_begun_17 rfl (lv_at hl 0 rfl) ?_
    refine zw_getI X hB fl_Model_85 32 (hm 32 _ rfl) rfl d_Model_begun_18 ?_
    refine lv_if_le (tgt := 28) hx hb d_Model_begun_21 (by decide) (fun c_21 => ?_) (fun c_21 => ?_)
    · exact absurd c_21 (by rw [emi_1, zw_up_self]; decide)
    · refine lv_iconst (v := 0) hx hb d_Model_begun_24 (by decide) ?_
      refine lv_goto (tgt := 34) hx hb d_Model_begun_25 (by decide) ?_
      exact zc_iret X hr hlocks hB (by subst emi_1; rfl) (by subst emi_1; rfl) (by subst emi_1; rfl) d_Model_begun_34
  · rw [if_neg c_6]
    refine lv_iconst (v := 0) hx hb d_Model_begun_9 (by decide) ?_
    refine lv_goto (tgt := 14) hx hb d_Model_begun_10 (by decide) ?_
    refine zw_putI X hB fp_Model_85 (fun h => by cases h) 32 (hm 32 _ rfl) rfl d_Model_begun_14 (fun H locs hB => ?_)
    obtain ⟨mi_2, emi_2⟩ : ∃ y, y = zw_up mi 32 0 0 := ⟨_, rfl⟩
    rw [← emi_2] at hB
    refine lv_aload_n hx hb d_Model_begun_17 rfl (lv_at hl 0 rfl) ?_
    refine zw_getI X hB fl_Model_85 32 (hm 32 _ rfl) rfl d_Model_begun_18 ?_
    refine lv_if_le (tgt := 28) hx hb d_Model_begun_21 (by decide) (fun c_21 => ?_) (fun c_21 => ?_)
    · refine lv_aload_n hx hb d_Model_begun_28 rfl (lv_at hl 0 rfl) ?_
      refine zw_getR X hB fl_Model_69 32 (hm 32 _ rfl) rfl d_Model_begun_29 ?_
      refine lv_iload_n hx hb d_Model_begun_32 rfl (lv_at hl 1 rfl) ?_
      refine zw_iald X hB 52 (hm 52 _ rfl) (h1 c_6) d_Model_begun_33 ?_
      exact zc_iret X hr hlocks hB (by subst emi_2; rfl) (by subst emi_2; rfl) (by subst emi_2; rfl) d_Model_begun_34
    · exact absurd (by rw [emi_2, zw_up_self]; decide) c_21

set_option maxHeartbeats 4000000 in
set_option maxRecDepth 100000 in
theorem c_Model_waited {l : Launch} {D : va_G} {cA : Nat → ClassId} {ad : Nat → Nat} {sh : zw_Sh} (hm : ∀ (k : Nat) (q : zw_Sp), shM k = some q → sh k = some q) (z : Nat) (mi : zw_I) (ml : zw_L) (x : Int32) (y : Int32) (h1 : ∀ x : Int32, ¬ q_isShare mi x = 0 → vp_in x 16) :
    zc_M l D cA Y_Model_waited 1 0 0 ad sh sh z [.ref (ad 32), .int x, .int y] mi ml (some (.int ((q_waited mi x y).1))) ((q_waited mi x y).2) ml z := by
  refine zc_enter (own := R_Model) (by decide) rfl (Nat.le_of_ble_eq_true rfl) ?_
  intro p e s m below meth c X hr hlocks hnm hB ls hl
  have X : zw_C D cA R_Model prog_9_method_24_code 3 p m c s := X
  have hr : meth.sig.returnType = (some FieldType.int) := hr
  have hx := X.1
  have hb := X.2.1
  have hl : lv_has ls 3 [(0, .ref (ad 32)), (1, .int x), (2, .int y)] := hl
  unfold q_waited
  refine lv_aload_n hx hb d_Model_waited_0 rfl (lv_at hl 0 rfl) ?_
  refine lv_aload_n hx hb d_Model_waited_1 rfl (lv_at hl 0 rfl) ?_
  refine lv_iload_n hx hb d_Model_waited_2 rfl (lv_at hl 1 rfl) ?_
  refine zw_callVr X hB mv_Model_88 32 (hm 32 _ rfl) rfl (c_Model_isShare hm z mi ml x) rfl hl.1 ⟨Nat.le_of_ble_eq_true rfl, Nat.le_of_ble_eq_true rfl⟩ rfl (Nat.le_of_ble_eq_true rfl) ⟨Nat.le_of_ble_eq_true rfl, Nat.le_of_ble_eq_true rfl⟩ d_Model_waited_3 (fun H locs hB => ?_)
  refine lv_if_eq (tgt := 21) hx hb d_Model_waited_6 (by decide) (fun c_6 => ?_) (fun c_6 => ?_)
  · rw [if_pos c_6]
    refine lv_iconst (v := 1) hx hb d_Model_waited_21 (by decide) ?_
    refine zw_putI X hB fp_Model_85 (fun h => by cases h) 32 (hm 32 _ rfl) rfl d_Model_waited_22 (fun H locs hB => ?_)
    obtain ⟨mi_1, emi_1⟩ : ∃ y, y = zw_up mi 32 0 1 := ⟨_, rfl⟩
    rw [← emi_1] at hB
    refine lv_aload_n hx hb d_Model_waited_25 rfl (lv_at hl 0 rfl) ?_
    refine zw_getI X hB fl_Model_85 32 (hm 32 _ rfl) rfl d_Model_waited_26 ?_
    refine lv_if_le (tgt := 36) hx hb d_Model_waited_29 (by decide) (fun c_29 => ?_) (fun c_29 => ?_)
    · exact absurd c_29 (by rw [emi_1, zw_up_self]; decide)
    · refine lv_iconst (v := 0) hx hb d_Model_waited_32 (by decide) ?_
      refine lv_goto (tgt := 47) hx hb d_Model_waited_33 (by decide) ?_
      exact zc_iret X hr hlocks hB (by subst emi_1; rfl) (by subst emi_1; rfl) (by subst emi_1; rfl) d_Model_waited_47
  · rw [if_neg c_6]
    refine lv_aload_n hx hb d_Model_waited_9 rfl (lv_at hl 0 rfl) ?_
    refine lv_iload_n hx hb d_Model_waited_10 rfl (lv_at hl 2 rfl) ?_
    refine zw_callVr X hB mv_Model_88 32 (hm 32 _ rfl) rfl (c_Model_isShare hm z mi ml y) rfl hl.1 ⟨Nat.le_of_ble_eq_true rfl, Nat.le_of_ble_eq_true rfl⟩ rfl (Nat.le_of_ble_eq_true rfl) ⟨Nat.le_of_ble_eq_true rfl, Nat.le_of_ble_eq_true rfl⟩ d_Model_waited_11 (fun H locs hB => ?_)
    refine lv_if_eq (tgt := 21) hx hb d_Model_waited_14 (by decide) (fun c_14 => ?_) (fun c_14 => ?_)
    · rw [if_pos c_14]
      refine lv_iconst (v := 1) hx hb d_Model_waited_21 (by decide) ?_
      refine zw_putI X hB fp_Model_85 (fun h => by cases h) 32 (hm 32 _ rfl) rfl d_Model_waited_22 (fun H locs hB => ?_)
      obtain ⟨mi_2, emi_2⟩ : ∃ y, y = zw_up mi 32 0 1 := ⟨_, rfl⟩
      rw [← emi_2] at hB
      refine lv_aload_n hx hb d_Model_waited_25 rfl (lv_at hl 0 rfl) ?_
      refine zw_getI X hB fl_Model_85 32 (hm 32 _ rfl) rfl d_Model_waited_26 ?_
      refine lv_if_le (tgt := 36) hx hb d_Model_waited_29 (by decide) (fun c_29 => ?_) (fun c_29 => ?_)
      · exact absurd c_29 (by rw [emi_2, zw_up_self]; decide)
      · refine lv_iconst (v := 0) hx hb d_Model_waited_32 (by decide) ?_
        refine lv_goto (tgt := 47) hx hb d_Model_waited_33 (by decide) ?_
        exact zc_iret X hr hlocks hB (by subst emi_2; rfl) (by subst emi_2; rfl) (by subst emi_2; rfl) d_Model_waited_47
    · rw [if_neg c_14]
      refine lv_iconst (v := 0) hx hb d_Model_waited_17 (by decide) ?_
      refine lv_goto (tgt := 22) hx hb d_Model_waited_18 (by decide) ?_
      refine zw_putI X hB fp_Model_85 (fun h => by cases h) 32 (hm 32 _ rfl) rfl d_Model_waited_22 (fun H locs hB => ?_)
      obtain ⟨mi_3, emi_3⟩ : ∃ y, y = zw_up mi 32 0 0 := ⟨_, rfl⟩
      rw [← emi_3] at hB
      refine lv_aload_n hx hb d_Model_waited_25 rfl (lv_at hl 0 rfl) ?_
      refine zw_getI X hB fl_Model_85 32 (hm 32 _ rfl) rfl d_Model_waited_26 ?_
      refine lv_if_le (tgt := 36) hx hb d_Model_waited_29 (by decide) (fun c_29 => ?_) (fun c_29 => ?_)
      · refine lv_aload_n hx hb d_Model_waited_36 rfl (lv_at hl 0 rfl) ?_
        refine zw_getR X hB fl_Model_72 32 (hm 32 _ rfl) rfl d_Model_waited_37 ?_
        refine lv_bipush (v := 16) hx hb d_Model_waited_40 (by decide) ?_
        refine lv_iload_n hx hb d_Model_waited_42 rfl (lv_at hl 1 rfl) ?_
        refine lv_imul hx hb d_Model_waited_43 ?_
        refine lv_iload_n hx hb d_Model_waited_44 rfl (lv_at hl 2 rfl) ?_
        refine lv_iadd hx hb d_Model_waited_45 ?_
        refine zw_iald X hB 53 (hm 53 _ rfl) (zm_16 (h1 _ c_6) (h1 _ c_14)) d_Model_waited_46 ?_
        exact zc_iret X hr hlocks hB (by subst emi_3; rfl) (by subst emi_3; rfl) (by subst emi_3; rfl) d_Model_waited_47
      · exact absurd (by rw [emi_3, zw_up_self]; decide) c_29

set_option maxHeartbeats 4000000 in
set_option maxRecDepth 100000 in
theorem c_Model_told {l : Launch} {D : va_G} {cA : Nat → ClassId} {ad : Nat → Nat} {sh : zw_Sh} (hm : ∀ (k : Nat) (q : zw_Sp), shM k = some q → sh k = some q) (z : Nat) (mi : zw_I) (ml : zw_L) (x : Int32) {n : Nat} (hn : n ≤ 16) (en : mi 32 1 = nI n) :
    zc_M l D cA Y_Model_told 0 0 0 ad sh sh z [.ref (ad 32), .int x] mi ml (some (.int (q_told (zw_up mi 32 0 0) x))) (zw_up mi 32 0 0) ml z := by
  refine zc_enter (own := R_Model) (by decide) rfl (Nat.le_of_ble_eq_true rfl) ?_
  intro p e s m below meth c X hr hlocks hnm hB ls hl
  have X : zw_C D cA R_Model prog_9_method_25_code 4 p m c s := X
  have hr : meth.sig.returnType = (some FieldType.int) := hr
  have hx := X.1
  have hb := X.2.1
  have hl : lv_has ls 4 [(0, .ref (ad 32)), (1, .int x)] := hl
  have loop : ∀ (f i : Nat) (a : Int32) (mi : zw_I) (H : Heap) (locs : List Loc) (ls : Array Slot), i + f = 17 → i ≤ n → mi 32 1 = nI n → zw_B D cA ad sh (zw_A ad sh z) s.heap mi ml z H locs → lv_has ls 4 [(3, .int (nI i)), (2, .int a), (0, .ref (ad 32)), (1, .int x)] →
      zc_W l D cA ad sh sh z [.ref (ad 32), .int x] 0 0 0 (some (.int (q_toldA mi x (q_count mi f a (nI i))))) mi ml z p e s m below meth c H locs 0 0 (F0 m 9 ls []) := by
    intro f
    induction f with
    | zero =>
      intro i a mi H locs ls hi h2 en hB hl
      omega
    | succ f ih =>
      intro i a mi H locs ls hi h2 en hB hl
      rw [q_count]
      refine lv_iload_n hx hb d_Model_told_9 rfl (lv_at hl 0 rfl) ?_
      refine lv_aload_n hx hb d_Model_told_10 rfl (lv_at hl 2 rfl) ?_
      refine zw_getI X hB fl_Model_75 32 (hm 32 _ rfl) rfl d_Model_told_11 ?_
      refine lv_icmp_ge (tgt := 40) hx hb d_Model_told_14 (by decide) (fun c_14 => ?_) (fun c_14 => ?_)
      · rw [if_pos c_14]
        unfold q_toldA
        refine lv_iload_n hx hb d_Model_told_40 rfl (lv_at hl 3 rfl) ?_
        by_cases hk_0 : x = 0
        · rw [if_pos hk_0]
          subst hk_0
          refine lv_tableIn (off := 63) (tgt := 104) hx hb d_Model_told_41 (by decide) (by decide) (by decide) (by decide) ?_
          refine lv_aload_n hx hb d_Model_told_104 rfl (lv_at hl 2 rfl) ?_
          refine zw_getI X hB fl_Model_75 32 (hm 32 _ rfl) rfl d_Model_told_105 ?_
          exact zc_iret X hr hlocks hB (by rfl) (by rfl) (by rfl) d_Model_told_108
        rw [if_neg hk_0]
        by_cases hk_1 : x = 1
        · rw [if_pos hk_1]
          subst hk_1
          refine lv_tableIn (off := 68) (tgt := 109) hx hb d_Model_told_41 (by decide) (by decide) (by decide) (by decide) ?_
          refine lv_aload_n hx hb d_Model_told_109 rfl (lv_at hl 2 rfl) ?_
          refine zw_getI X hB fl_Model_79 32 (hm 32 _ rfl) rfl d_Model_told_110 ?_
          exact zc_iret X hr hlocks hB (by rfl) (by rfl) (by rfl) d_Model_told_113
        rw [if_neg hk_1]
        by_cases hk_2 : x = 2
        · rw [if_pos hk_2]
          subst hk_2
          refine lv_tableIn (off := 73) (tgt := 114) hx hb d_Model_told_41 (by decide) (by decide) (by decide) (by decide) ?_
          refine lv_aload_n hx hb d_Model_told_114 rfl (lv_at hl 2 rfl) ?_
          refine zw_getI X hB fl_Model_96 32 (hm 32 _ rfl) rfl d_Model_told_115 ?_
          exact zc_iret X hr hlocks hB (by rfl) (by rfl) (by rfl) d_Model_told_118
        rw [if_neg hk_2]
        by_cases hk_3 : x = 3
        · rw [if_pos hk_3]
          subst hk_3
          refine lv_tableIn (off := 78) (tgt := 119) hx hb d_Model_told_41 (by decide) (by decide) (by decide) (by decide) ?_
          refine lv_aload_n hx hb d_Model_told_119 rfl (lv_at hl 2 rfl) ?_
          refine zw_getI X hB fl_Model_99 32 (hm 32 _ rfl) rfl d_Model_told_120 ?_
          exact zc_iret X hr hlocks hB (by rfl) (by rfl) (by rfl) d_Model_told_123
        rw [if_neg hk_3]
        by_cases hk_4 : x = 4
        · rw [if_pos hk_4]
          subst hk_4
          refine lv_tableIn (off := 83) (tgt := 124) hx hb d_Model_told_41 (by decide) (by decide) (by decide) (by decide) ?_
          refine lv_aload_n hx hb d_Model_told_124 rfl (lv_at hl 2 rfl) ?_
          refine zw_getI X hB fl_Model_154 32 (hm 32 _ rfl) rfl d_Model_told_125 ?_
          exact zc_iret X hr hlocks hB (by rfl) (by rfl) (by rfl) d_Model_told_128
        rw [if_neg hk_4]
        by_cases hk_5 : x = 5
        · rw [if_pos hk_5]
          subst hk_5
          refine lv_tableIn (off := 88) (tgt := 129) hx hb d_Model_told_41 (by decide) (by decide) (by decide) (by decide) ?_
          refine lv_aload_n hx hb d_Model_told_129 rfl (lv_at hl 2 rfl) ?_
          refine zw_getI X hB fl_Model_127 32 (hm 32 _ rfl) rfl d_Model_told_130 ?_
          exact zc_iret X hr hlocks hB (by rfl) (by rfl) (by rfl) d_Model_told_133
        rw [if_neg hk_5]
        by_cases hk_6 : x = 6
        · rw [if_pos hk_6]
          subst hk_6
          refine lv_tableIn (off := 93) (tgt := 134) hx hb d_Model_told_41 (by decide) (by decide) (by decide) (by decide) ?_
          refine lv_aload_n hx hb d_Model_told_134 rfl (lv_at hl 2 rfl) ?_
          refine zw_getI X hB fl_Model_134 32 (hm 32 _ rfl) rfl d_Model_told_135 ?_
          exact zc_iret X hr hlocks hB (by rfl) (by rfl) (by rfl) d_Model_told_138
        rw [if_neg hk_6]
        by_cases hk_7 : x = 7
        · rw [if_pos hk_7]
          subst hk_7
          refine lv_tableIn (off := 98) (tgt := 139) hx hb d_Model_told_41 (by decide) (by decide) (by decide) (by decide) ?_
          refine lv_aload_n hx hb d_Model_told_139 rfl (lv_at hl 2 rfl) ?_
          refine zw_getI X hB fl_Model_113 32 (hm 32 _ rfl) rfl d_Model_told_140 ?_
          exact zc_iret X hr hlocks hB (by rfl) (by rfl) (by rfl) d_Model_told_143
        rw [if_neg hk_7]
        by_cases hk_8 : x = 8
        · rw [if_pos hk_8]
          subst hk_8
          refine lv_tableIn (off := 103) (tgt := 144) hx hb d_Model_told_41 (by decide) (by decide) (by decide) (by decide) ?_
          refine lv_aload_n hx hb d_Model_told_144 rfl (lv_at hl 2 rfl) ?_
          refine zw_getI X hB fl_Model_108 32 (hm 32 _ rfl) rfl d_Model_told_145 ?_
          exact zc_iret X hr hlocks hB (by rfl) (by rfl) (by rfl) d_Model_told_148
        rw [if_neg hk_8]
        by_cases hk_9 : x = 9
        · rw [if_pos hk_9]
          subst hk_9
          refine lv_tableIn (off := 108) (tgt := 149) hx hb d_Model_told_41 (by decide) (by decide) (by decide) (by decide) ?_
          refine lv_aload_n hx hb d_Model_told_149 rfl (lv_at hl 2 rfl) ?_
          refine zw_getI X hB fl_Model_168 32 (hm 32 _ rfl) rfl d_Model_told_150 ?_
          exact zc_iret X hr hlocks hB (by rfl) (by rfl) (by rfl) d_Model_told_153
        rw [if_neg hk_9]
        by_cases hk_10 : x = 10
        · rw [if_pos hk_10]
          subst hk_10
          refine lv_tableIn (off := 113) (tgt := 154) hx hb d_Model_told_41 (by decide) (by decide) (by decide) (by decide) ?_
          refine lv_aload_n hx hb d_Model_told_154 rfl (lv_at hl 2 rfl) ?_
          refine zw_getI X hB fl_Model_116 32 (hm 32 _ rfl) rfl d_Model_told_155 ?_
          exact zc_iret X hr hlocks hB (by rfl) (by rfl) (by rfl) d_Model_told_158
        rw [if_neg hk_10]
        by_cases hk_11 : x = 11
        · rw [if_pos hk_11]
          subst hk_11
          refine lv_tableIn (off := 118) (tgt := 159) hx hb d_Model_told_41 (by decide) (by decide) (by decide) (by decide) ?_
          refine lv_iload_n hx hb d_Model_told_159 rfl (lv_at hl 1 rfl) ?_
          exact zc_iret X hr hlocks hB (by rfl) (by rfl) (by rfl) d_Model_told_160
        rw [if_neg hk_11]
        refine lv_tableOut (tgt := 161) hx hb d_Model_told_41 (zt_out hk_0 hk_1 hk_2 hk_3 hk_4 hk_5 hk_6 hk_7 hk_8 hk_9 hk_10 hk_11) (by decide) ?_
        refine lv_iconst (v := (-1)) hx hb d_Model_told_161 (by decide) ?_
        exact zc_iret X hr hlocks hB (by rfl) (by rfl) (by rfl) d_Model_told_162
      · rw [if_neg c_14]
        have hlt : i < n := zn_lt (by omega) (by rw [← en]; exact c_14)
        have hin : vp_in (nI i) 16 := vp_in_nI (by omega) (by decide)
        refine lv_iload_n hx hb d_Model_told_17 rfl (lv_at hl 1 rfl) ?_
        refine lv_aload_n hx hb d_Model_told_18 rfl (lv_at hl 2 rfl) ?_
        refine zw_getR X hB fl_Model_47 32 (hm 32 _ rfl) rfl d_Model_told_19 ?_
        refine lv_iload_n hx hb d_Model_told_22 rfl (lv_at hl 0 rfl) ?_
        refine zw_zald X hB 45 (hm 45 _ rfl) hin d_Model_told_23 ?_
        refine lv_if_eq (tgt := 31) hx hb d_Model_told_24 (by decide) (fun c_24 => ?_) (fun c_24 => ?_)
        · rw [if_pos c_24]
          refine lv_iconst (v := 0) hx hb d_Model_told_31 (by decide) ?_
          refine lv_iadd hx hb d_Model_told_32 ?_
          refine lv_istore_n (lv' := [(2, .int (a + 0)), (3, .int (nI i)), (0, .ref (ad 32)), (1, .int x)]) hx hb d_Model_told_33 rfl hl (by decide) rfl (fun ls hl => ?_)
          refine lv_iinc (v := nI (i + 1)) (lv' := [(3, .int (nI (i + 1))), (2, .int (a + 0)), (0, .ref (ad 32)), (1, .int x)]) hx hb d_Model_told_34 hl (k := 1) rfl (nI_1 i) (by decide) rfl (fun ls hl => ?_)
          refine lv_goto (tgt := 9) hx hb d_Model_told_37 (by decide) ?_
          rw [nI_1 i]
          exact ih (i + 1) _ _ H locs ls (by omega) (by omega) en hB (lv_sub hl [0, 1, 2, 3] rfl)
        · rw [if_neg c_24]
          refine lv_iconst (v := 1) hx hb d_Model_told_27 (by decide) ?_
          refine lv_goto (tgt := 32) hx hb d_Model_told_28 (by decide) ?_
          refine lv_iadd hx hb d_Model_told_32 ?_
          refine lv_istore_n (lv' := [(2, .int (a + 1)), (3, .int (nI i)), (0, .ref (ad 32)), (1, .int x)]) hx hb d_Model_told_33 rfl hl (by decide) rfl (fun ls hl => ?_)
          refine lv_iinc (v := nI (i + 1)) (lv' := [(3, .int (nI (i + 1))), (2, .int (a + 1)), (0, .ref (ad 32)), (1, .int x)]) hx hb d_Model_told_34 hl (k := 1) rfl (nI_1 i) (by decide) rfl (fun ls hl => ?_)
          refine lv_goto (tgt := 9) hx hb d_Model_told_37 (by decide) ?_
          rw [nI_1 i]
          exact ih (i + 1) _ _ H locs ls (by omega) (by omega) en hB (lv_sub hl [0, 1, 2, 3] rfl)
  refine lv_aload_n hx hb d_Model_told_0 rfl (lv_at hl 0 rfl) ?_
  refine lv_iconst (v := 0) hx hb d_Model_told_1 (by decide) ?_
  refine zw_putI X hB fp_Model_85 (fun h => by cases h) 32 (hm 32 _ rfl) rfl d_Model_told_2 (fun H locs hB => ?_)
  obtain ⟨mi_1, emi_1⟩ : ∃ y, y = zw_up mi 32 0 0 := ⟨_, rfl⟩
  rw [← emi_1] at hB
  refine lv_iconst (v := 0) hx hb d_Model_told_5 (by decide) ?_
  refine lv_istore_n (lv' := [(2, .int 0), (0, .ref (ad 32)), (1, .int x)]) hx hb d_Model_told_6 rfl hl (by decide) rfl (fun ls hl => ?_)
  refine lv_iconst (v := 0) hx hb d_Model_told_7 (by decide) ?_
  refine lv_istore_n (lv' := [(3, .int 0), (2, .int 0), (0, .ref (ad 32)), (1, .int x)]) hx hb d_Model_told_8 rfl hl (by decide) rfl (fun ls hl => ?_)
  subst emi_1
  exact loop 17 0 _ _ _ _ ls rfl (by omega) (by simpa [zw_up] using en) hB (lv_sub hl [0, 1, 2, 3] rfl)

set_option maxHeartbeats 4000000 in
set_option maxRecDepth 100000 in
theorem c_Model_clear {l : Launch} {D : va_G} {cA : Nat → ClassId} {ad : Nat → Nat} {sh : zw_Sh} (hm : ∀ (k : Nat) (q : zw_Sp), shM k = some q → sh k = some q) (z : Nat) (mi : zw_I) (ml : zw_L) :
    zc_M l D cA Y_Model_clear 0 0 0 ad sh sh z [.ref (ad 32)] mi ml none ((q_clear mi ml).1) ((q_clear mi ml).2) z := by
  refine zc_enter (own := R_Model) (by decide) rfl (Nat.le_of_ble_eq_true rfl) ?_
  intro p e s m below meth c X hr hlocks hnm hB ls hl
  have X : zw_C D cA R_Model prog_9_method_26_code 2 p m c s := X
  have hr : meth.sig.returnType = none := hr
  have hx := X.1
  have hb := X.2.1
  have hl : lv_has ls 2 [(0, .ref (ad 32))] := hl
  have loop2 : ∀ (f i : Nat) (mi : zw_I) (ml : zw_L) (H : Heap) (locs : List Loc) (ls : Array Slot), i + f = 257 → i ≤ 256 → zw_B D cA ad sh (zw_A ad sh z) s.heap mi ml z H locs → lv_has ls 2 [(1, .int (nI i)), (0, .ref (ad 32))] →
      zc_W l D cA ad sh sh z [.ref (ad 32)] 0 0 0 none (q_clr3 (q_beg2 f (nI i) mi)) ml z p e s m below meth c H locs 0 0 (F0 m 81 ls []) := by
    intro f
    induction f with
    | zero =>
      intro i  mi ml H locs ls hi h2 hB hl
      omega
    | succ f ih =>
      intro i  mi ml H locs ls hi h2 hB hl
      rw [q_beg2]
      refine lv_iload_n hx hb d_Model_clear_81 rfl (lv_at hl 0 rfl) ?_
      refine lv_sipush (v := 256) hx hb d_Model_clear_82 (by decide) ?_
      refine lv_icmp_ge (tgt := 101) hx hb d_Model_clear_85 (by decide) (fun c_85 => ?_) (fun c_85 => ?_)
      · rw [if_pos c_85]
        refine lv_aload_n hx hb d_Model_clear_101 rfl (lv_at hl 1 rfl) ?_
        refine lv_iconst (v := 0) hx hb d_Model_clear_102 (by decide) ?_
        refine zw_putI X hB fp_Model_116 (fun h => by cases h) 32 (hm 32 _ rfl) rfl d_Model_clear_103 (fun H locs hB => ?_)
        obtain ⟨mi_1, emi_1⟩ : ∃ y, y = zw_up mi 32 29 0 := ⟨_, rfl⟩
        rw [← emi_1] at hB
        refine lv_aload_n hx hb d_Model_clear_106 rfl (lv_at hl 1 rfl) ?_
        refine lv_iconst (v := 0) hx hb d_Model_clear_107 (by decide) ?_
        refine zw_putI X hB fp_Model_154 (fun h => by cases h) 32 (hm 32 _ rfl) rfl d_Model_clear_108 (fun H locs hB => ?_)
        obtain ⟨mi_2, emi_2⟩ : ∃ y, y = zw_up mi_1 32 30 0 := ⟨_, rfl⟩
        rw [← emi_2] at hB
        refine lv_aload_n hx hb d_Model_clear_111 rfl (lv_at hl 1 rfl) ?_
        refine lv_iconst (v := 0) hx hb d_Model_clear_112 (by decide) ?_
        refine zw_putI X hB fp_Model_127 (fun h => by cases h) 32 (hm 32 _ rfl) rfl d_Model_clear_113 (fun H locs hB => ?_)
        obtain ⟨mi_3, emi_3⟩ : ∃ y, y = zw_up mi_2 32 31 0 := ⟨_, rfl⟩
        rw [← emi_3] at hB
        refine lv_aload_n hx hb d_Model_clear_116 rfl (lv_at hl 1 rfl) ?_
        refine lv_iconst (v := 0) hx hb d_Model_clear_117 (by decide) ?_
        refine zw_putI X hB fp_Model_134 (fun h => by cases h) 32 (hm 32 _ rfl) rfl d_Model_clear_118 (fun H locs hB => ?_)
        obtain ⟨mi_4, emi_4⟩ : ∃ y, y = zw_up mi_3 32 32 0 := ⟨_, rfl⟩
        rw [← emi_4] at hB
        refine lv_aload_n hx hb d_Model_clear_121 rfl (lv_at hl 1 rfl) ?_
        refine lv_iconst (v := 0) hx hb d_Model_clear_122 (by decide) ?_
        refine zw_putI X hB fp_Model_113 (fun h => by cases h) 32 (hm 32 _ rfl) rfl d_Model_clear_123 (fun H locs hB => ?_)
        obtain ⟨mi_5, emi_5⟩ : ∃ y, y = zw_up mi_4 32 33 0 := ⟨_, rfl⟩
        rw [← emi_5] at hB
        refine lv_aload_n hx hb d_Model_clear_126 rfl (lv_at hl 1 rfl) ?_
        refine lv_iconst (v := 0) hx hb d_Model_clear_127 (by decide) ?_
        refine zw_putI X hB fp_Model_108 (fun h => by cases h) 32 (hm 32 _ rfl) rfl d_Model_clear_128 (fun H locs hB => ?_)
        obtain ⟨mi_6, emi_6⟩ : ∃ y, y = zw_up mi_5 32 34 0 := ⟨_, rfl⟩
        rw [← emi_6] at hB
        refine lv_aload_n hx hb d_Model_clear_131 rfl (lv_at hl 1 rfl) ?_
        refine lv_iconst (v := 0) hx hb d_Model_clear_132 (by decide) ?_
        refine zw_putI X hB fp_Model_168 (fun h => by cases h) 32 (hm 32 _ rfl) rfl d_Model_clear_133 (fun H locs hB => ?_)
        obtain ⟨mi_7, emi_7⟩ : ∃ y, y = zw_up mi_6 32 35 0 := ⟨_, rfl⟩
        rw [← emi_7] at hB
        exact zc_vret X hr hlocks hB (by subst emi_7; subst emi_6; subst emi_5; subst emi_4; subst emi_3; subst emi_2; subst emi_1; rfl) (by subst emi_7; subst emi_6; subst emi_5; subst emi_4; subst emi_3; subst emi_2; subst emi_1; rfl) (by subst emi_7; subst emi_6; subst emi_5; subst emi_4; subst emi_3; subst emi_2; subst emi_1; rfl) d_Model_clear_136
      · rw [if_neg c_85]
        have hlt : i < 256 := zn_lt (a := 256) (by omega) c_85
        have hin : vp_in (nI i) 256 := vp_in_nI hlt (by decide)
        refine lv_aload_n hx hb d_Model_clear_88 rfl (lv_at hl 1 rfl) ?_
        refine zw_getR X hB fl_Model_72 32 (hm 32 _ rfl) rfl d_Model_clear_89 ?_
        refine lv_iload_n hx hb d_Model_clear_92 rfl (lv_at hl 0 rfl) ?_
        refine lv_iconst (v := 0) hx hb d_Model_clear_93 (by decide) ?_
        refine zw_iast X hB 53 (hm 53 _ rfl) hin d_Model_clear_94 (fun H locs hB => ?_)
        obtain ⟨mi_8, emi_8⟩ : ∃ y, y = zw_up mi 53 (nI i).toNatClampNeg 0 := ⟨_, rfl⟩
        rw [← emi_8] at hB
        refine lv_iinc (v := nI (i + 1)) (lv' := [(1, .int (nI (i + 1))), (0, .ref (ad 32))]) hx hb d_Model_clear_95 hl (k := 0) rfl (nI_1 i) (by decide) rfl (fun ls hl => ?_)
        refine lv_goto (tgt := 81) hx hb d_Model_clear_98 (by decide) ?_
        subst emi_8
        rw [nI_1 i]
        exact ih (i + 1)  _ _ H locs ls (by omega) (by omega) hB (lv_sub hl [0, 1] rfl)
  have loop1 : ∀ (f i : Nat) (mi : zw_I) (ml : zw_L) (H : Heap) (locs : List Loc) (ls : Array Slot), i + f = 17 → i ≤ 16 → zw_B D cA ad sh (zw_A ad sh z) s.heap mi ml z H locs → lv_has ls 2 [(1, .int (nI i)), (0, .ref (ad 32))] →
      zc_W l D cA ad sh sh z [.ref (ad 32)] 0 0 0 none (q_clr3 (q_beg2 257 0 (q_clr1 f (nI i) mi ml).1)) ((q_clr1 f (nI i) mi ml).2) z p e s m below meth c H locs 0 0 (F0 m 17 ls []) := by
    intro f
    induction f with
    | zero =>
      intro i  mi ml H locs ls hi h2 hB hl
      omega
    | succ f ih =>
      intro i  mi ml H locs ls hi h2 hB hl
      rw [q_clr1]
      refine lv_iload_n hx hb d_Model_clear_17 rfl (lv_at hl 0 rfl) ?_
      refine lv_bipush (v := 16) hx hb d_Model_clear_18 (by decide) ?_
      refine lv_icmp_ge (tgt := 79) hx hb d_Model_clear_20 (by decide) (fun c_20 => ?_) (fun c_20 => ?_)
      · rw [if_pos c_20]
        refine lv_iconst (v := 0) hx hb d_Model_clear_79 (by decide) ?_
        refine lv_istore_n (lv' := [(1, .int 0), (0, .ref (ad 32))]) hx hb d_Model_clear_80 rfl hl (by decide) rfl (fun ls hl => ?_)
        exact loop2 257 0 _ _ _ _ ls rfl (by omega) hB (lv_sub hl [0, 1] rfl)
      · rw [if_neg c_20]
        have hlt : i < 16 := zn_lt (a := 16) (by omega) c_20
        have hin : vp_in (nI i) 16 := vp_in_nI hlt (by decide)
        refine lv_aload_n hx hb d_Model_clear_23 rfl (lv_at hl 1 rfl) ?_
        refine zw_getR X hB fl_Model_7 32 (hm 32 _ rfl) rfl d_Model_clear_24 ?_
        refine lv_iload_n hx hb d_Model_clear_27 rfl (lv_at hl 0 rfl) ?_
        refine lv_iconst (v := 1) hx hb d_Model_clear_28 (by decide) ?_
        refine zw_iast X hB 33 (hm 33 _ rfl) hin d_Model_clear_29 (fun H locs hB => ?_)
        obtain ⟨mi_1, emi_1⟩ : ∃ y, y = zw_up mi 33 (nI i).toNatClampNeg 1 := ⟨_, rfl⟩
        rw [← emi_1] at hB
        refine lv_aload_n hx hb d_Model_clear_30 rfl (lv_at hl 1 rfl) ?_
        refine zw_getR X hB fl_Model_13 32 (hm 32 _ rfl) rfl d_Model_clear_31 ?_
        refine lv_iload_n hx hb d_Model_clear_34 rfl (lv_at hl 0 rfl) ?_
        refine lv_iconst (v := 1) hx hb d_Model_clear_35 (by decide) ?_
        refine zw_iast X hB 34 (hm 34 _ rfl) hin d_Model_clear_36 (fun H locs hB => ?_)
        obtain ⟨mi_2, emi_2⟩ : ∃ y, y = zw_up mi_1 34 (nI i).toNatClampNeg 1 := ⟨_, rfl⟩
        rw [← emi_2] at hB
        refine lv_aload_n hx hb d_Model_clear_37 rfl (lv_at hl 1 rfl) ?_
        refine zw_getR X hB fl_Model_16 32 (hm 32 _ rfl) rfl d_Model_clear_38 ?_
        refine lv_iload_n hx hb d_Model_clear_41 rfl (lv_at hl 0 rfl) ?_
        refine lv_iload_n hx hb d_Model_clear_42 rfl (lv_at hl 0 rfl) ?_
        refine lv_i2l (v := (nI i).toInt64) hx hb d_Model_clear_43 rfl ?_
        refine zw_last X hB 35 (hm 35 _ rfl) hin d_Model_clear_44 (fun H locs hB => ?_)
        obtain ⟨ml_3, eml_3⟩ : ∃ y, y = zw_up ml 35 (nI i).toNatClampNeg ((nI i).toInt64) := ⟨_, rfl⟩
        rw [← eml_3] at hB
        refine lv_aload_n hx hb d_Model_clear_45 rfl (lv_at hl 1 rfl) ?_
        refine zw_getR X hB fl_Model_20 32 (hm 32 _ rfl) rfl d_Model_clear_46 ?_
        refine lv_iload_n hx hb d_Model_clear_49 rfl (lv_at hl 0 rfl) ?_
        refine lv_iconst (v := 0) hx hb d_Model_clear_50 (by decide) ?_
        refine zw_iast X hB 36 (hm 36 _ rfl) hin d_Model_clear_51 (fun H locs hB => ?_)
        obtain ⟨mi_4, emi_4⟩ : ∃ y, y = zw_up mi_2 36 (nI i).toNatClampNeg 0 := ⟨_, rfl⟩
        rw [← emi_4] at hB
        refine lv_aload_n hx hb d_Model_clear_52 rfl (lv_at hl 1 rfl) ?_
        refine zw_getR X hB fl_Model_47 32 (hm 32 _ rfl) rfl d_Model_clear_53 ?_
        refine lv_iload_n hx hb d_Model_clear_56 rfl (lv_at hl 0 rfl) ?_
        refine lv_iconst (v := 0) hx hb d_Model_clear_57 (by decide) ?_
        refine zw_zast X hB 45 (hm 45 _ rfl) (by rfl) hin d_Model_clear_58 (fun H locs hB => ?_)
        obtain ⟨mi_5, emi_5⟩ : ∃ y, y = zw_up mi_4 45 (nI i).toNatClampNeg 0 := ⟨_, rfl⟩
        rw [← emi_5] at hB
        refine lv_aload_n hx hb d_Model_clear_59 rfl (lv_at hl 1 rfl) ?_
        refine zw_getR X hB fl_Model_57 32 (hm 32 _ rfl) rfl d_Model_clear_60 ?_
        refine lv_iload_n hx hb d_Model_clear_63 rfl (lv_at hl 0 rfl) ?_
        refine lv_iconst (v := 0) hx hb d_Model_clear_64 (by decide) ?_
        refine zw_iast X hB 48 (hm 48 _ rfl) hin d_Model_clear_65 (fun H locs hB => ?_)
        obtain ⟨mi_6, emi_6⟩ : ∃ y, y = zw_up mi_5 48 (nI i).toNatClampNeg 0 := ⟨_, rfl⟩
        rw [← emi_6] at hB
        refine lv_aload_n hx hb d_Model_clear_66 rfl (lv_at hl 1 rfl) ?_
        refine zw_getR X hB fl_Model_69 32 (hm 32 _ rfl) rfl d_Model_clear_67 ?_
        refine lv_iload_n hx hb d_Model_clear_70 rfl (lv_at hl 0 rfl) ?_
        refine lv_iconst (v := 0) hx hb d_Model_clear_71 (by decide) ?_
        refine zw_iast X hB 52 (hm 52 _ rfl) hin d_Model_clear_72 (fun H locs hB => ?_)
        obtain ⟨mi_7, emi_7⟩ : ∃ y, y = zw_up mi_6 52 (nI i).toNatClampNeg 0 := ⟨_, rfl⟩
        rw [← emi_7] at hB
        refine lv_iinc (v := nI (i + 1)) (lv' := [(1, .int (nI (i + 1))), (0, .ref (ad 32))]) hx hb d_Model_clear_73 hl (k := 0) rfl (nI_1 i) (by decide) rfl (fun ls hl => ?_)
        refine lv_goto (tgt := 17) hx hb d_Model_clear_76 (by decide) ?_
        subst emi_7
        subst emi_6
        subst emi_5
        subst emi_4
        subst eml_3
        subst emi_2
        subst emi_1
        rw [nI_1 i]
        exact ih (i + 1)  _ _ H locs ls (by omega) (by omega) hB (lv_sub hl [0, 1] rfl)
  refine lv_aload_n hx hb d_Model_clear_0 rfl (lv_at hl 0 rfl) ?_
  refine lv_iconst (v := 0) hx hb d_Model_clear_1 (by decide) ?_
  refine zw_putI X hB fp_Model_85 (fun h => by cases h) 32 (hm 32 _ rfl) rfl d_Model_clear_2 (fun H locs hB => ?_)
  obtain ⟨mi_1, emi_1⟩ : ∃ y, y = zw_up mi 32 0 0 := ⟨_, rfl⟩
  rw [← emi_1] at hB
  refine lv_aload_n hx hb d_Model_clear_5 rfl (lv_at hl 0 rfl) ?_
  refine lv_iconst (v := 0) hx hb d_Model_clear_6 (by decide) ?_
  refine zw_putI X hB fp_Model_96 (fun h => by cases h) 32 (hm 32 _ rfl) rfl d_Model_clear_7 (fun H locs hB => ?_)
  obtain ⟨mi_2, emi_2⟩ : ∃ y, y = zw_up mi_1 32 15 0 := ⟨_, rfl⟩
  rw [← emi_2] at hB
  refine lv_aload_n hx hb d_Model_clear_10 rfl (lv_at hl 0 rfl) ?_
  refine lv_iconst (v := (-1)) hx hb d_Model_clear_11 (by decide) ?_
  refine zw_putI X hB fp_Model_99 (fun h => by cases h) 32 (hm 32 _ rfl) rfl d_Model_clear_12 (fun H locs hB => ?_)
  obtain ⟨mi_3, emi_3⟩ : ∃ y, y = zw_up mi_2 32 16 (-1) := ⟨_, rfl⟩
  rw [← emi_3] at hB
  refine lv_iconst (v := 0) hx hb d_Model_clear_15 (by decide) ?_
  refine lv_istore_n (lv' := [(1, .int 0), (0, .ref (ad 32))]) hx hb d_Model_clear_16 rfl hl (by decide) rfl (fun ls hl => ?_)
  subst emi_3
  subst emi_2
  subst emi_1
  exact loop1 17 0 _ _ _ _ ls rfl (by omega) hB (lv_sub hl [0, 1] rfl)
