abbrev Y_Model_doStep : zc_Y := (⟨R_Model, "doStep", "(II)V"⟩, prog_9_method_14_code, 8, none)
abbrev Y_Model_tick : zc_Y := (⟨R_Model, "tick", "(I)V"⟩, prog_9_method_15_code, 4, none)
theorem d_Model_doStep_0 : decode prog_9_method_14_code 0 = .ok (.aload_n 0, 1) := by decide +kernel
theorem d_Model_doStep_1 : decode prog_9_method_14_code 1 = .ok (.getfield 57, 3) := by decide +kernel
theorem d_Model_doStep_4 : decode prog_9_method_14_code 4 = .ok (.iload_n 2, 1) := by decide +kernel
theorem d_Model_doStep_5 : decode prog_9_method_14_code 5 = .ok (.iaload, 1) := by decide +kernel
theorem d_Model_doStep_6 : decode prog_9_method_14_code 6 = .ok (.istore_n 3, 1) := by decide +kernel
theorem d_Model_doStep_7 : decode prog_9_method_14_code 7 = .ok (.aload_n 0, 1) := by decide +kernel
theorem d_Model_doStep_8 : decode prog_9_method_14_code 8 = .ok (.getfield 54, 3) := by decide +kernel
theorem d_Model_doStep_11 : decode prog_9_method_14_code 11 = .ok (.bipush 21, 2) := by decide +kernel
theorem d_Model_doStep_13 : decode prog_9_method_14_code 13 = .ok (.iload_n 2, 1) := by decide +kernel
theorem d_Model_doStep_14 : decode prog_9_method_14_code 14 = .ok (.imul, 1) := by decide +kernel
theorem d_Model_doStep_15 : decode prog_9_method_14_code 15 = .ok (.iload_n 3, 1) := by decide +kernel
theorem d_Model_doStep_16 : decode prog_9_method_14_code 16 = .ok (.iadd, 1) := by decide +kernel
theorem d_Model_doStep_17 : decode prog_9_method_14_code 17 = .ok (.laload, 1) := by decide +kernel
theorem d_Model_doStep_18 : decode prog_9_method_14_code 18 = .ok (.ldc2_w 111, 3) := by decide +kernel
theorem d_Model_doStep_21 : decode prog_9_method_14_code 21 = .ok (.lmul, 1) := by decide +kernel
theorem d_Model_doStep_22 : decode prog_9_method_14_code 22 = .ok (.iload_n 3, 1) := by decide +kernel
theorem d_Model_doStep_23 : decode prog_9_method_14_code 23 = .ok (.i2l, 1) := by decide +kernel
theorem d_Model_doStep_24 : decode prog_9_method_14_code 24 = .ok (.ladd, 1) := by decide +kernel
theorem d_Model_doStep_25 : decode prog_9_method_14_code 25 = .ok (.lconst 1, 1) := by decide +kernel
theorem d_Model_doStep_26 : decode prog_9_method_14_code 26 = .ok (.ladd, 1) := by decide +kernel
theorem d_Model_doStep_27 : decode prog_9_method_14_code 27 = .ok (.lstore 4, 2) := by decide +kernel
theorem d_Model_doStep_29 : decode prog_9_method_14_code 29 = .ok (.iconst 0, 1) := by decide +kernel
theorem d_Model_doStep_30 : decode prog_9_method_14_code 30 = .ok (.istore 6, 2) := by decide +kernel
theorem d_Model_doStep_32 : decode prog_9_method_14_code 32 = .ok (.iload 6, 2) := by decide +kernel
theorem d_Model_doStep_34 : decode prog_9_method_14_code 34 = .ok (.aload_n 0, 1) := by decide +kernel
theorem d_Model_doStep_35 : decode prog_9_method_14_code 35 = .ok (.getfield 20, 3) := by decide +kernel
theorem d_Model_doStep_38 : decode prog_9_method_14_code 38 = .ok (.iload_n 2, 1) := by decide +kernel
theorem d_Model_doStep_39 : decode prog_9_method_14_code 39 = .ok (.iaload, 1) := by decide +kernel
theorem d_Model_doStep_40 : decode prog_9_method_14_code 40 = .ok (.if_icmp .ge 61, 3) := by decide +kernel
theorem d_Model_doStep_43 : decode prog_9_method_14_code 43 = .ok (.bipush 6, 2) := by decide +kernel
theorem d_Model_doStep_45 : decode prog_9_method_14_code 45 = .ok (.iload_n 2, 1) := by decide +kernel
theorem d_Model_doStep_46 : decode prog_9_method_14_code 46 = .ok (.imul, 1) := by decide +kernel
theorem d_Model_doStep_47 : decode prog_9_method_14_code 47 = .ok (.iload 6, 2) := by decide +kernel
theorem d_Model_doStep_49 : decode prog_9_method_14_code 49 = .ok (.iadd, 1) := by decide +kernel
theorem d_Model_doStep_50 : decode prog_9_method_14_code 50 = .ok (.istore 7, 2) := by decide +kernel
theorem d_Model_doStep_52 : decode prog_9_method_14_code 52 = .ok (.lload 4, 2) := by decide +kernel
theorem d_Model_doStep_54 : decode prog_9_method_14_code 54 = .ok (.aload_n 0, 1) := by decide +kernel
theorem d_Model_doStep_55 : decode prog_9_method_14_code 55 = .ok (.getfield 23, 3) := by decide +kernel
theorem d_Model_doStep_58 : decode prog_9_method_14_code 58 = .ok (.iload 7, 2) := by decide +kernel
theorem d_Model_doStep_60 : decode prog_9_method_14_code 60 = .ok (.iaload, 1) := by decide +kernel
theorem d_Model_doStep_61 : decode prog_9_method_14_code 61 = .ok (.iload_n 3, 1) := by decide +kernel
theorem d_Model_doStep_62 : decode prog_9_method_14_code 62 = .ok (.if_icmp .ne 29, 3) := by decide +kernel
theorem d_Model_doStep_65 : decode prog_9_method_14_code 65 = .ok (.aload_n 0, 1) := by decide +kernel
theorem d_Model_doStep_66 : decode prog_9_method_14_code 66 = .ok (.getfield 54, 3) := by decide +kernel
theorem d_Model_doStep_69 : decode prog_9_method_14_code 69 = .ok (.bipush 21, 2) := by decide +kernel
theorem d_Model_doStep_71 : decode prog_9_method_14_code 71 = .ok (.aload_n 0, 1) := by decide +kernel
theorem d_Model_doStep_72 : decode prog_9_method_14_code 72 = .ok (.getfield 26, 3) := by decide +kernel
theorem d_Model_doStep_75 : decode prog_9_method_14_code 75 = .ok (.iload 7, 2) := by decide +kernel
theorem d_Model_doStep_77 : decode prog_9_method_14_code 77 = .ok (.iaload, 1) := by decide +kernel
theorem d_Model_doStep_78 : decode prog_9_method_14_code 78 = .ok (.imul, 1) := by decide +kernel
theorem d_Model_doStep_79 : decode prog_9_method_14_code 79 = .ok (.aload_n 0, 1) := by decide +kernel
theorem d_Model_doStep_80 : decode prog_9_method_14_code 80 = .ok (.getfield 29, 3) := by decide +kernel
theorem d_Model_doStep_83 : decode prog_9_method_14_code 83 = .ok (.iload 7, 2) := by decide +kernel
theorem d_Model_doStep_85 : decode prog_9_method_14_code 85 = .ok (.iaload, 1) := by decide +kernel
theorem d_Model_doStep_86 : decode prog_9_method_14_code 86 = .ok (.iadd, 1) := by decide +kernel
theorem d_Model_doStep_87 : decode prog_9_method_14_code 87 = .ok (.laload, 1) := by decide +kernel
theorem d_Model_doStep_88 : decode prog_9_method_14_code 88 = .ok (.goto 4, 3) := by decide +kernel
theorem d_Model_doStep_91 : decode prog_9_method_14_code 91 = .ok (.lconst 0, 1) := by decide +kernel
theorem d_Model_doStep_92 : decode prog_9_method_14_code 92 = .ok (.ladd, 1) := by decide +kernel
theorem d_Model_doStep_93 : decode prog_9_method_14_code 93 = .ok (.lstore 4, 2) := by decide +kernel
theorem d_Model_doStep_95 : decode prog_9_method_14_code 95 = .ok (.iinc 6 1, 3) := by decide +kernel
theorem d_Model_doStep_98 : decode prog_9_method_14_code 98 = .ok (.goto (-66), 3) := by decide +kernel
theorem d_Model_doStep_101 : decode prog_9_method_14_code 101 = .ok (.aload_n 0, 1) := by decide +kernel
theorem d_Model_doStep_102 : decode prog_9_method_14_code 102 = .ok (.getfield 54, 3) := by decide +kernel
theorem d_Model_doStep_105 : decode prog_9_method_14_code 105 = .ok (.bipush 21, 2) := by decide +kernel
theorem d_Model_doStep_107 : decode prog_9_method_14_code 107 = .ok (.iload_n 2, 1) := by decide +kernel
theorem d_Model_doStep_108 : decode prog_9_method_14_code 108 = .ok (.imul, 1) := by decide +kernel
theorem d_Model_doStep_109 : decode prog_9_method_14_code 109 = .ok (.iload_n 3, 1) := by decide +kernel
theorem d_Model_doStep_110 : decode prog_9_method_14_code 110 = .ok (.iadd, 1) := by decide +kernel
theorem d_Model_doStep_111 : decode prog_9_method_14_code 111 = .ok (.iconst 1, 1) := by decide +kernel
theorem d_Model_doStep_112 : decode prog_9_method_14_code 112 = .ok (.iadd, 1) := by decide +kernel
theorem d_Model_doStep_113 : decode prog_9_method_14_code 113 = .ok (.lload 4, 2) := by decide +kernel
theorem d_Model_doStep_115 : decode prog_9_method_14_code 115 = .ok (.lload 4, 2) := by decide +kernel
theorem d_Model_doStep_117 : decode prog_9_method_14_code 117 = .ok (.bipush 29, 2) := by decide +kernel
theorem d_Model_doStep_119 : decode prog_9_method_14_code 119 = .ok (.lushr, 1) := by decide +kernel
theorem d_Model_doStep_120 : decode prog_9_method_14_code 120 = .ok (.lxor, 1) := by decide +kernel
theorem d_Model_doStep_121 : decode prog_9_method_14_code 121 = .ok (.lastore, 1) := by decide +kernel
theorem d_Model_doStep_122 : decode prog_9_method_14_code 122 = .ok (.aload_n 0, 1) := by decide +kernel
theorem d_Model_doStep_123 : decode prog_9_method_14_code 123 = .ok (.getfield 57, 3) := by decide +kernel
theorem d_Model_doStep_126 : decode prog_9_method_14_code 126 = .ok (.iload_n 2, 1) := by decide +kernel
theorem d_Model_doStep_127 : decode prog_9_method_14_code 127 = .ok (.dup2, 1) := by decide +kernel
theorem d_Model_doStep_128 : decode prog_9_method_14_code 128 = .ok (.iaload, 1) := by decide +kernel
theorem d_Model_doStep_129 : decode prog_9_method_14_code 129 = .ok (.iconst 1, 1) := by decide +kernel
theorem d_Model_doStep_130 : decode prog_9_method_14_code 130 = .ok (.iadd, 1) := by decide +kernel
theorem d_Model_doStep_131 : decode prog_9_method_14_code 131 = .ok (.iastore, 1) := by decide +kernel
theorem d_Model_doStep_132 : decode prog_9_method_14_code 132 = .ok (.aload_n 0, 1) := by decide +kernel
theorem d_Model_doStep_133 : decode prog_9_method_14_code 133 = .ok (.dup, 1) := by decide +kernel
theorem d_Model_doStep_134 : decode prog_9_method_14_code 134 = .ok (.getfield 113, 3) := by decide +kernel
theorem d_Model_doStep_137 : decode prog_9_method_14_code 137 = .ok (.iconst 1, 1) := by decide +kernel
theorem d_Model_doStep_138 : decode prog_9_method_14_code 138 = .ok (.iadd, 1) := by decide +kernel
theorem d_Model_doStep_139 : decode prog_9_method_14_code 139 = .ok (.putfield 113, 3) := by decide +kernel
theorem d_Model_doStep_142 : decode prog_9_method_14_code 142 = .ok (.aload_n 0, 1) := by decide +kernel
theorem d_Model_doStep_143 : decode prog_9_method_14_code 143 = .ok (.getfield 57, 3) := by decide +kernel
theorem d_Model_doStep_146 : decode prog_9_method_14_code 146 = .ok (.iload_n 2, 1) := by decide +kernel
theorem d_Model_doStep_147 : decode prog_9_method_14_code 147 = .ok (.iaload, 1) := by decide +kernel
theorem d_Model_doStep_148 : decode prog_9_method_14_code 148 = .ok (.aload_n 0, 1) := by decide +kernel
theorem d_Model_doStep_149 : decode prog_9_method_14_code 149 = .ok (.getfield 7, 3) := by decide +kernel
theorem d_Model_doStep_152 : decode prog_9_method_14_code 152 = .ok (.iload_n 2, 1) := by decide +kernel
theorem d_Model_doStep_153 : decode prog_9_method_14_code 153 = .ok (.iaload, 1) := by decide +kernel
theorem d_Model_doStep_154 : decode prog_9_method_14_code 154 = .ok (.if_icmp .ne 45, 3) := by decide +kernel
theorem d_Model_doStep_157 : decode prog_9_method_14_code 157 = .ok (.aload_n 0, 1) := by decide +kernel
theorem d_Model_doStep_158 : decode prog_9_method_14_code 158 = .ok (.getfield 66, 3) := by decide +kernel
theorem d_Model_doStep_161 : decode prog_9_method_14_code 161 = .ok (.aload_n 0, 1) := by decide +kernel
theorem d_Model_doStep_162 : decode prog_9_method_14_code 162 = .ok (.getfield 116, 3) := by decide +kernel
theorem d_Model_doStep_165 : decode prog_9_method_14_code 165 = .ok (.iload_n 2, 1) := by decide +kernel
theorem d_Model_doStep_166 : decode prog_9_method_14_code 166 = .ok (.iastore, 1) := by decide +kernel
theorem d_Model_doStep_167 : decode prog_9_method_14_code 167 = .ok (.aload_n 0, 1) := by decide +kernel
theorem d_Model_doStep_168 : decode prog_9_method_14_code 168 = .ok (.dup, 1) := by decide +kernel
theorem d_Model_doStep_169 : decode prog_9_method_14_code 169 = .ok (.getfield 116, 3) := by decide +kernel
theorem d_Model_doStep_172 : decode prog_9_method_14_code 172 = .ok (.iconst 1, 1) := by decide +kernel
theorem d_Model_doStep_173 : decode prog_9_method_14_code 173 = .ok (.iadd, 1) := by decide +kernel
theorem d_Model_doStep_174 : decode prog_9_method_14_code 174 = .ok (.putfield 116, 3) := by decide +kernel
theorem d_Model_doStep_177 : decode prog_9_method_14_code 177 = .ok (.aload_n 0, 1) := by decide +kernel
theorem d_Model_doStep_178 : decode prog_9_method_14_code 178 = .ok (.dup, 1) := by decide +kernel
theorem d_Model_doStep_179 : decode prog_9_method_14_code 179 = .ok (.getfield 105, 3) := by decide +kernel
theorem d_Model_doStep_182 : decode prog_9_method_14_code 182 = .ok (.aload_n 0, 1) := by decide +kernel
theorem d_Model_doStep_183 : decode prog_9_method_14_code 183 = .ok (.getfield 13, 3) := by decide +kernel
theorem d_Model_doStep_186 : decode prog_9_method_14_code 186 = .ok (.iload_n 2, 1) := by decide +kernel
theorem d_Model_doStep_187 : decode prog_9_method_14_code 187 = .ok (.iaload, 1) := by decide +kernel
theorem d_Model_doStep_188 : decode prog_9_method_14_code 188 = .ok (.isub, 1) := by decide +kernel
theorem d_Model_doStep_189 : decode prog_9_method_14_code 189 = .ok (.putfield 105, 3) := by decide +kernel
theorem d_Model_doStep_192 : decode prog_9_method_14_code 192 = .ok (.aload_n 0, 1) := by decide +kernel
theorem d_Model_doStep_193 : decode prog_9_method_14_code 193 = .ok (.getfield 60, 3) := by decide +kernel
theorem d_Model_doStep_196 : decode prog_9_method_14_code 196 = .ok (.iload_n 1, 1) := by decide +kernel
theorem d_Model_doStep_197 : decode prog_9_method_14_code 197 = .ok (.iconst (-1), 1) := by decide +kernel
theorem d_Model_doStep_198 : decode prog_9_method_14_code 198 = .ok (.iastore, 1) := by decide +kernel
theorem d_Model_doStep_199 : decode prog_9_method_14_code 199 = .ok (.return_, 1) := by decide +kernel
theorem d_Model_tick_0 : decode prog_9_method_15_code 0 = .ok (.aload_n 0, 1) := by decide +kernel
theorem d_Model_tick_1 : decode prog_9_method_15_code 1 = .ok (.getfield 60, 3) := by decide +kernel
theorem d_Model_tick_4 : decode prog_9_method_15_code 4 = .ok (.iload_n 1, 1) := by decide +kernel
theorem d_Model_tick_5 : decode prog_9_method_15_code 5 = .ok (.iaload, 1) := by decide +kernel
theorem d_Model_tick_6 : decode prog_9_method_15_code 6 = .ok (.istore_n 2, 1) := by decide +kernel
theorem d_Model_tick_7 : decode prog_9_method_15_code 7 = .ok (.iload_n 2, 1) := by decide +kernel
theorem d_Model_tick_8 : decode prog_9_method_15_code 8 = .ok (.ifCond .ge 29, 3) := by decide +kernel
theorem d_Model_tick_11 : decode prog_9_method_15_code 11 = .ok (.aload_n 0, 1) := by decide +kernel
theorem d_Model_tick_12 : decode prog_9_method_15_code 12 = .ok (.invokevirtual 119, 3) := by decide +kernel
theorem d_Model_tick_15 : decode prog_9_method_15_code 15 = .ok (.ifCond .eq 11, 3) := by decide +kernel
theorem d_Model_tick_18 : decode prog_9_method_15_code 18 = .ok (.aload_n 0, 1) := by decide +kernel
theorem d_Model_tick_19 : decode prog_9_method_15_code 19 = .ok (.iload_n 1, 1) := by decide +kernel
theorem d_Model_tick_20 : decode prog_9_method_15_code 20 = .ok (.invokevirtual 123, 3) := by decide +kernel
theorem d_Model_tick_23 : decode prog_9_method_15_code 23 = .ok (.goto 13, 3) := by decide +kernel
theorem d_Model_tick_26 : decode prog_9_method_15_code 26 = .ok (.aload_n 0, 1) := by decide +kernel
theorem d_Model_tick_27 : decode prog_9_method_15_code 27 = .ok (.dup, 1) := by decide +kernel
theorem d_Model_tick_28 : decode prog_9_method_15_code 28 = .ok (.getfield 127, 3) := by decide +kernel
theorem d_Model_tick_31 : decode prog_9_method_15_code 31 = .ok (.iconst 1, 1) := by decide +kernel
theorem d_Model_tick_32 : decode prog_9_method_15_code 32 = .ok (.iadd, 1) := by decide +kernel
theorem d_Model_tick_33 : decode prog_9_method_15_code 33 = .ok (.putfield 127, 3) := by decide +kernel
theorem d_Model_tick_36 : decode prog_9_method_15_code 36 = .ok (.return_, 1) := by decide +kernel
theorem d_Model_tick_37 : decode prog_9_method_15_code 37 = .ok (.aload_n 0, 1) := by decide +kernel
theorem d_Model_tick_38 : decode prog_9_method_15_code 38 = .ok (.iload_n 2, 1) := by decide +kernel
theorem d_Model_tick_39 : decode prog_9_method_15_code 39 = .ok (.invokevirtual 130, 3) := by decide +kernel
theorem d_Model_tick_42 : decode prog_9_method_15_code 42 = .ok (.istore_n 3, 1) := by decide +kernel
theorem d_Model_tick_43 : decode prog_9_method_15_code 43 = .ok (.iload_n 3, 1) := by decide +kernel
theorem d_Model_tick_44 : decode prog_9_method_15_code 44 = .ok (.ifCond .lt 36, 3) := by decide +kernel
theorem d_Model_tick_47 : decode prog_9_method_15_code 47 = .ok (.aload_n 0, 1) := by decide +kernel
theorem d_Model_tick_48 : decode prog_9_method_15_code 48 = .ok (.getfield 72, 3) := by decide +kernel
theorem d_Model_tick_51 : decode prog_9_method_15_code 51 = .ok (.bipush 16, 2) := by decide +kernel
theorem d_Model_tick_53 : decode prog_9_method_15_code 53 = .ok (.iload_n 2, 1) := by decide +kernel
theorem d_Model_tick_54 : decode prog_9_method_15_code 54 = .ok (.imul, 1) := by decide +kernel
theorem d_Model_tick_55 : decode prog_9_method_15_code 55 = .ok (.aload_n 0, 1) := by decide +kernel
theorem d_Model_tick_56 : decode prog_9_method_15_code 56 = .ok (.getfield 26, 3) := by decide +kernel
theorem d_Model_tick_59 : decode prog_9_method_15_code 59 = .ok (.iload_n 3, 1) := by decide +kernel
theorem d_Model_tick_60 : decode prog_9_method_15_code 60 = .ok (.iaload, 1) := by decide +kernel
theorem d_Model_tick_61 : decode prog_9_method_15_code 61 = .ok (.iadd, 1) := by decide +kernel
theorem d_Model_tick_62 : decode prog_9_method_15_code 62 = .ok (.dup2, 1) := by decide +kernel
theorem d_Model_tick_63 : decode prog_9_method_15_code 63 = .ok (.iaload, 1) := by decide +kernel
theorem d_Model_tick_64 : decode prog_9_method_15_code 64 = .ok (.iconst 1, 1) := by decide +kernel
theorem d_Model_tick_65 : decode prog_9_method_15_code 65 = .ok (.iadd, 1) := by decide +kernel
theorem d_Model_tick_66 : decode prog_9_method_15_code 66 = .ok (.iastore, 1) := by decide +kernel
theorem d_Model_tick_67 : decode prog_9_method_15_code 67 = .ok (.aload_n 0, 1) := by decide +kernel
theorem d_Model_tick_68 : decode prog_9_method_15_code 68 = .ok (.dup, 1) := by decide +kernel
theorem d_Model_tick_69 : decode prog_9_method_15_code 69 = .ok (.getfield 134, 3) := by decide +kernel
theorem d_Model_tick_72 : decode prog_9_method_15_code 72 = .ok (.iconst 1, 1) := by decide +kernel
theorem d_Model_tick_73 : decode prog_9_method_15_code 73 = .ok (.iadd, 1) := by decide +kernel
theorem d_Model_tick_74 : decode prog_9_method_15_code 74 = .ok (.putfield 134, 3) := by decide +kernel
theorem d_Model_tick_77 : decode prog_9_method_15_code 77 = .ok (.goto 81, 3) := by decide +kernel
theorem d_Model_tick_80 : decode prog_9_method_15_code 80 = .ok (.aload_n 0, 1) := by decide +kernel
theorem d_Model_tick_81 : decode prog_9_method_15_code 81 = .ok (.iload_n 1, 1) := by decide +kernel
theorem d_Model_tick_82 : decode prog_9_method_15_code 82 = .ok (.iload_n 2, 1) := by decide +kernel
theorem d_Model_tick_83 : decode prog_9_method_15_code 83 = .ok (.invokevirtual 137, 3) := by decide +kernel
theorem d_Model_tick_86 : decode prog_9_method_15_code 86 = .ok (.ifCond .eq 66, 3) := by decide +kernel
theorem d_Model_tick_89 : decode prog_9_method_15_code 89 = .ok (.aload_n 0, 1) := by decide +kernel
theorem d_Model_tick_90 : decode prog_9_method_15_code 90 = .ok (.getfield 60, 3) := by decide +kernel
theorem d_Model_tick_93 : decode prog_9_method_15_code 93 = .ok (.iload_n 1, 1) := by decide +kernel
theorem d_Model_tick_94 : decode prog_9_method_15_code 94 = .ok (.bipush (-2), 2) := by decide +kernel
theorem d_Model_tick_96 : decode prog_9_method_15_code 96 = .ok (.iastore, 1) := by decide +kernel
theorem d_Model_tick_97 : decode prog_9_method_15_code 97 = .ok (.aload_n 0, 1) := by decide +kernel
theorem d_Model_tick_98 : decode prog_9_method_15_code 98 = .ok (.dup, 1) := by decide +kernel
theorem d_Model_tick_99 : decode prog_9_method_15_code 99 = .ok (.getfield 141, 3) := by decide +kernel
theorem d_Model_tick_102 : decode prog_9_method_15_code 102 = .ok (.iconst 1, 1) := by decide +kernel
theorem d_Model_tick_103 : decode prog_9_method_15_code 103 = .ok (.isub, 1) := by decide +kernel
theorem d_Model_tick_104 : decode prog_9_method_15_code 104 = .ok (.putfield 141, 3) := by decide +kernel
theorem d_Model_tick_107 : decode prog_9_method_15_code 107 = .ok (.aload_n 0, 1) := by decide +kernel
theorem d_Model_tick_108 : decode prog_9_method_15_code 108 = .ok (.getfield 57, 3) := by decide +kernel
theorem d_Model_tick_111 : decode prog_9_method_15_code 111 = .ok (.iload_n 2, 1) := by decide +kernel
theorem d_Model_tick_112 : decode prog_9_method_15_code 112 = .ok (.iconst 0, 1) := by decide +kernel
theorem d_Model_tick_113 : decode prog_9_method_15_code 113 = .ok (.iastore, 1) := by decide +kernel
theorem d_Model_tick_114 : decode prog_9_method_15_code 114 = .ok (.aload_n 0, 1) := by decide +kernel
theorem d_Model_tick_115 : decode prog_9_method_15_code 115 = .ok (.dup, 1) := by decide +kernel
theorem d_Model_tick_116 : decode prog_9_method_15_code 116 = .ok (.getfield 105, 3) := by decide +kernel
theorem d_Model_tick_119 : decode prog_9_method_15_code 119 = .ok (.aload_n 0, 1) := by decide +kernel
theorem d_Model_tick_120 : decode prog_9_method_15_code 120 = .ok (.getfield 13, 3) := by decide +kernel
theorem d_Model_tick_123 : decode prog_9_method_15_code 123 = .ok (.iload_n 2, 1) := by decide +kernel
theorem d_Model_tick_124 : decode prog_9_method_15_code 124 = .ok (.iaload, 1) := by decide +kernel
theorem d_Model_tick_125 : decode prog_9_method_15_code 125 = .ok (.isub, 1) := by decide +kernel
theorem d_Model_tick_126 : decode prog_9_method_15_code 126 = .ok (.putfield 105, 3) := by decide +kernel
theorem d_Model_tick_129 : decode prog_9_method_15_code 129 = .ok (.aload_n 0, 1) := by decide +kernel
theorem d_Model_tick_130 : decode prog_9_method_15_code 130 = .ok (.getfield 63, 3) := by decide +kernel
theorem d_Model_tick_133 : decode prog_9_method_15_code 133 = .ok (.aload_n 0, 1) := by decide +kernel
theorem d_Model_tick_134 : decode prog_9_method_15_code 134 = .ok (.getfield 102, 3) := by decide +kernel
theorem d_Model_tick_137 : decode prog_9_method_15_code 137 = .ok (.iload_n 2, 1) := by decide +kernel
theorem d_Model_tick_138 : decode prog_9_method_15_code 138 = .ok (.iastore, 1) := by decide +kernel
theorem d_Model_tick_139 : decode prog_9_method_15_code 139 = .ok (.aload_n 0, 1) := by decide +kernel
theorem d_Model_tick_140 : decode prog_9_method_15_code 140 = .ok (.dup, 1) := by decide +kernel
theorem d_Model_tick_141 : decode prog_9_method_15_code 141 = .ok (.getfield 102, 3) := by decide +kernel
theorem d_Model_tick_144 : decode prog_9_method_15_code 144 = .ok (.iconst 1, 1) := by decide +kernel
theorem d_Model_tick_145 : decode prog_9_method_15_code 145 = .ok (.iadd, 1) := by decide +kernel
theorem d_Model_tick_146 : decode prog_9_method_15_code 146 = .ok (.putfield 102, 3) := by decide +kernel
theorem d_Model_tick_149 : decode prog_9_method_15_code 149 = .ok (.goto 9, 3) := by decide +kernel
theorem d_Model_tick_152 : decode prog_9_method_15_code 152 = .ok (.aload_n 0, 1) := by decide +kernel
theorem d_Model_tick_153 : decode prog_9_method_15_code 153 = .ok (.iload_n 1, 1) := by decide +kernel
theorem d_Model_tick_154 : decode prog_9_method_15_code 154 = .ok (.iload_n 2, 1) := by decide +kernel
theorem d_Model_tick_155 : decode prog_9_method_15_code 155 = .ok (.invokevirtual 144, 3) := by decide +kernel
theorem d_Model_tick_158 : decode prog_9_method_15_code 158 = .ok (.return_, 1) := by decide +kernel
theorem fl_Model_54 : zw_FL R_Model 54 7 19 := ⟨R_Model, T_Model, 36, rfl, by decide, ly_Model, Or.inl (zw_in (List.mem_of_getElem? (i := 637) (by decide +kernel)) (by decide +kernel))⟩
theorem fl_Model_66 : zw_FL R_Model 66 7 26 := ⟨R_Model, T_Model, 36, rfl, by decide, ly_Model, Or.inl (zw_in (List.mem_of_getElem? (i := 644) (by decide +kernel)) (by decide +kernel))⟩
theorem fl_Model_72 : zw_FL R_Model 72 7 28 := ⟨R_Model, T_Model, 36, rfl, by decide, ly_Model, Or.inl (zw_in (List.mem_of_getElem? (i := 646) (by decide +kernel)) (by decide +kernel))⟩
theorem fl_Model_113 : zw_FL R_Model 113 7 33 := ⟨R_Model, T_Model, 36, rfl, by decide, ly_Model, Or.inl (zw_in (List.mem_of_getElem? (i := 651) (by decide +kernel)) (by decide +kernel))⟩
theorem fl_Model_116 : zw_FL R_Model 116 7 29 := ⟨R_Model, T_Model, 36, rfl, by decide, ly_Model, Or.inl (zw_in (List.mem_of_getElem? (i := 647) (by decide +kernel)) (by decide +kernel))⟩
theorem fl_Model_127 : zw_FL R_Model 127 7 31 := ⟨R_Model, T_Model, 36, rfl, by decide, ly_Model, Or.inl (zw_in (List.mem_of_getElem? (i := 649) (by decide +kernel)) (by decide +kernel))⟩
theorem fl_Model_134 : zw_FL R_Model 134 7 32 := ⟨R_Model, T_Model, 36, rfl, by decide, ly_Model, Or.inl (zw_in (List.mem_of_getElem? (i := 650) (by decide +kernel)) (by decide +kernel))⟩
theorem fl_Model_141 : zw_FL R_Model 141 7 25 := ⟨R_Model, T_Model, 36, rfl, by decide, ly_Model, Or.inl (zw_in (List.mem_of_getElem? (i := 643) (by decide +kernel)) (by decide +kernel))⟩
theorem fp_Model_113 : zw_FP R_Model 113 7 33 (.int) false := ⟨R_Model, T_Model, 36, ty_Model, rfl, by decide, ly_Model, ty_Model_ok, rfl, nm_Model, rfl, Or.inl ⟨(zw_in (List.mem_of_getElem? (i := 651) (by decide +kernel)) (by decide +kernel)), fun h => by cases h⟩⟩
theorem fp_Model_116 : zw_FP R_Model 116 7 29 (.int) false := ⟨R_Model, T_Model, 36, ty_Model, rfl, by decide, ly_Model, ty_Model_ok, rfl, nm_Model, rfl, Or.inl ⟨(zw_in (List.mem_of_getElem? (i := 647) (by decide +kernel)) (by decide +kernel)), fun h => by cases h⟩⟩
theorem fp_Model_127 : zw_FP R_Model 127 7 31 (.int) false := ⟨R_Model, T_Model, 36, ty_Model, rfl, by decide, ly_Model, ty_Model_ok, rfl, nm_Model, rfl, Or.inl ⟨(zw_in (List.mem_of_getElem? (i := 649) (by decide +kernel)) (by decide +kernel)), fun h => by cases h⟩⟩
theorem fp_Model_134 : zw_FP R_Model 134 7 32 (.int) false := ⟨R_Model, T_Model, 36, ty_Model, rfl, by decide, ly_Model, ty_Model_ok, rfl, nm_Model, rfl, Or.inl ⟨(zw_in (List.mem_of_getElem? (i := 650) (by decide +kernel)) (by decide +kernel)), fun h => by cases h⟩⟩
theorem fp_Model_141 : zw_FP R_Model 141 7 25 (.int) false := ⟨R_Model, T_Model, 36, ty_Model, rfl, by decide, ly_Model, ty_Model_ok, rfl, nm_Model, rfl, Or.inl ⟨(zw_in (List.mem_of_getElem? (i := 643) (by decide +kernel)) (by decide +kernel)), fun h => by cases h⟩⟩
theorem mv_Model_119 : zw_MV R_Model 119 Y_Model_canTake R_Model 0 := ⟨Or.inl (zw_in (List.mem_of_getElem? (i := 778) (by decide +kernel)) (by decide +kernel)), (zw_in (List.mem_of_getElem? (i := 780) (by decide +kernel)) (by decide +kernel)), (zw_in (List.mem_of_getElem? (i := 18) (by decide +kernel)) (by decide +kernel)), (zw_in (List.mem_of_getElem? (i := 781) (by decide +kernel)) (by decide +kernel)), (zw_in (List.mem_of_getElem? (i := 33) (by decide +kernel)) (by decide +kernel)), by decide +kernel, by decide +kernel⟩
theorem mv_Model_123 : zw_MV R_Model 123 Y_Model_take R_Model 1 := ⟨Or.inl (zw_in (List.mem_of_getElem? (i := 792) (by decide +kernel)) (by decide +kernel)), (zw_in (List.mem_of_getElem? (i := 794) (by decide +kernel)) (by decide +kernel)), (zw_in (List.mem_of_getElem? (i := 21) (by decide +kernel)) (by decide +kernel)), (zw_in (List.mem_of_getElem? (i := 795) (by decide +kernel)) (by decide +kernel)), (zw_in (List.mem_of_getElem? (i := 33) (by decide +kernel)) (by decide +kernel)), by decide +kernel, by decide +kernel⟩
theorem mv_Model_130 : zw_MV R_Model 130 Y_Model_waitsFor R_Model 1 := ⟨Or.inl (zw_in (List.mem_of_getElem? (i := 782) (by decide +kernel)) (by decide +kernel)), (zw_in (List.mem_of_getElem? (i := 784) (by decide +kernel)) (by decide +kernel)), (zw_in (List.mem_of_getElem? (i := 19) (by decide +kernel)) (by decide +kernel)), (zw_in (List.mem_of_getElem? (i := 785) (by decide +kernel)) (by decide +kernel)), (zw_in (List.mem_of_getElem? (i := 33) (by decide +kernel)) (by decide +kernel)), by decide +kernel, by decide +kernel⟩
theorem mv_Model_137 : zw_MV R_Model 137 Y_Model_fails R_Model 2 := ⟨Or.inl (zw_in (List.mem_of_getElem? (i := 796) (by decide +kernel)) (by decide +kernel)), (zw_in (List.mem_of_getElem? (i := 798) (by decide +kernel)) (by decide +kernel)), (zw_in (List.mem_of_getElem? (i := 22) (by decide +kernel)) (by decide +kernel)), (zw_in (List.mem_of_getElem? (i := 799) (by decide +kernel)) (by decide +kernel)), (zw_in (List.mem_of_getElem? (i := 33) (by decide +kernel)) (by decide +kernel)), by decide +kernel, by decide +kernel⟩
theorem mv_Model_144 : zw_MV R_Model 144 Y_Model_doStep R_Model 2 := ⟨Or.inl (zw_in (List.mem_of_getElem? (i := 800) (by decide +kernel)) (by decide +kernel)), (zw_in (List.mem_of_getElem? (i := 802) (by decide +kernel)) (by decide +kernel)), (zw_in (List.mem_of_getElem? (i := 23) (by decide +kernel)) (by decide +kernel)), (zw_in (List.mem_of_getElem? (i := 803) (by decide +kernel)) (by decide +kernel)), (zw_in (List.mem_of_getElem? (i := 33) (by decide +kernel)) (by decide +kernel)), by decide +kernel, by decide +kernel⟩
set_option maxHeartbeats 4000000 in
set_option maxRecDepth 100000 in
theorem c_Model_doStep {l : Launch} {D : va_G} {cA : Nat → ClassId} {ad : Nat → Nat} {sh : zw_Sh} (hm : ∀ (k : Nat) (q : zw_Sp), shM k = some q → sh k = some q) (z : Nat) (mi : zw_I) (ml : zw_L) (wk : Int32) (x : Int32) (hw : vp_in wk 16) (h1 : vp_in x 16) (hN : zm_N mi) (hT : zm_T mi x) :
    zc_M l D cA Y_Model_doStep 0 0 0 ad sh sh z [.ref (ad 32), .int wk, .int x] mi ml none (q_step wk x mi) (q_stepL mi ml x) z := by
  refine zc_enter (own := R_Model) (by decide) rfl (Nat.le_of_ble_eq_true rfl) ?_
  intro p e s m below meth c X hr hlocks hnm hB ls hl
  have X : zw_C D cA R_Model prog_9_method_14_code 8 p m c s := X
  have hr : meth.sig.returnType = none := hr
  have hx := X.1
  have hb := X.2.1
  have hl : lv_has ls 8 [(0, .ref (ad 32)), (1, .int wk), (2, .int x)] := hl
  obtain ⟨w6, hw6, ew⟩ := hN.1 _ (vlt h1)
  have loop : ∀ (f i : Nat) (a : Int64)  (H : Heap) (locs : List Loc) (ls : Array Slot), i + f = 7 → i ≤ w6 → zw_B D cA ad sh (zw_A ad sh z) s.heap mi ml z H locs → lv_has ls 8 [(6, .int (nI i)), (4, .long a), (0, .ref (ad 32)), (1, .int wk), (2, .int x), (3, .int (mi 48 x.toNatClampNeg))] →
      zc_W l D cA ad sh sh z [.ref (ad 32), .int wk, .int x] 0 0 0 none (q_step wk x mi) (zw_up ml 47 (21 * x + mi 48 x.toNatClampNeg + 1).toNatClampNeg (p_mix (q_sum mi ml x (mi 48 x.toNatClampNeg) f (nI i) a))) z p e s m below meth c H locs 0 0 (F0 m 32 ls []) := by
    intro f
    induction f with
    | zero =>
      intro i a  H locs ls hi h2 hB hl
      omega
    | succ f ih =>
      intro i a  H locs ls hi h2 hB hl
      rw [q_sum]
      refine lv_iload hx hb d_Model_doStep_32 (lv_at hl 0 rfl) ?_
      refine lv_aload_n hx hb d_Model_doStep_34 rfl (lv_at hl 2 rfl) ?_
      refine zw_getR X hB fl_Model_20 32 (hm 32 _ rfl) rfl d_Model_doStep_35 ?_
      refine lv_iload_n hx hb d_Model_doStep_38 rfl (lv_at hl 4 rfl) ?_
      refine zw_iald X hB 36 (hm 36 _ rfl) h1 d_Model_doStep_39 ?_
      refine lv_icmp_ge (tgt := 101) hx hb d_Model_doStep_40 (by decide) (fun c_40 => ?_) (fun c_40 => ?_)
      · rw [if_pos c_40]
        unfold q_step q_stepB
        refine lv_aload_n hx hb d_Model_doStep_101 rfl (lv_at hl 2 rfl) ?_
        refine zw_getR X hB fl_Model_54 32 (hm 32 _ rfl) rfl d_Model_doStep_102 ?_
        refine lv_bipush (v := 21) hx hb d_Model_doStep_105 (by decide) ?_
        refine lv_iload_n hx hb d_Model_doStep_107 rfl (lv_at hl 4 rfl) ?_
        refine lv_imul hx hb d_Model_doStep_108 ?_
        refine lv_iload_n hx hb d_Model_doStep_109 rfl (lv_at hl 5 rfl) ?_
        refine lv_iadd hx hb d_Model_doStep_110 ?_
        refine lv_iconst (v := 1) hx hb d_Model_doStep_111 (by decide) ?_
        refine lv_iadd hx hb d_Model_doStep_112 ?_
        refine lv_lload hx hb d_Model_doStep_113 (lv_at hl 1 rfl) ?_
        refine lv_lload hx hb d_Model_doStep_115 (lv_at hl 1 rfl) ?_
        refine lv_bipush (v := 29) hx hb d_Model_doStep_117 (by decide) ?_
        refine lv_lushr (v := (a.toUInt64 >>> ((29 : Int32).toInt64.toUInt64 &&& Int64.toUInt64 63)).toInt64) hx hb d_Model_doStep_119 rfl ?_
        refine lv_lxor hx hb d_Model_doStep_120 ?_
        refine zw_last X hB 47 (hm 47 _ rfl) (zm_21' h1 hT.2.1 hT.1) d_Model_doStep_121 (fun H locs hB => ?_)
        refine lv_aload_n hx hb d_Model_doStep_122 rfl (lv_at hl 2 rfl) ?_
        refine zw_getR X hB fl_Model_57 32 (hm 32 _ rfl) rfl d_Model_doStep_123 ?_
        refine lv_iload_n hx hb d_Model_doStep_126 rfl (lv_at hl 4 rfl) ?_
        refine lv_dup2_11 hx hb d_Model_doStep_127 rfl rfl ?_
        refine zw_iald X hB 48 (hm 48 _ rfl) h1 d_Model_doStep_128 ?_
        refine lv_iconst (v := 1) hx hb d_Model_doStep_129 (by decide) ?_
        refine lv_iadd hx hb d_Model_doStep_130 ?_
        refine zw_iast X hB 48 (hm 48 _ rfl) h1 d_Model_doStep_131 (fun H locs hB => ?_)
        refine lv_aload_n hx hb d_Model_doStep_132 rfl (lv_at hl 2 rfl) ?_
        refine lv_dup hx hb d_Model_doStep_133 rfl ?_
        refine zw_getI X hB fl_Model_113 32 (hm 32 _ rfl) rfl d_Model_doStep_134 ?_
        refine lv_iconst (v := 1) hx hb d_Model_doStep_137 (by decide) ?_
        refine lv_iadd hx hb d_Model_doStep_138 ?_
        refine zw_putI X hB fp_Model_113 (fun h => by cases h) 32 (hm 32 _ rfl) rfl d_Model_doStep_139 (fun H locs hB => ?_)
        have hB : zw_B D cA ad sh (zw_A ad sh z) s.heap (q_step1 x mi) (zw_up ml 47 (((21 * x) + (mi 48 x.toNatClampNeg)) + 1).toNatClampNeg (a ^^^ ((a.toUInt64 >>> ((29 : Int32).toInt64.toUInt64 &&& Int64.toUInt64 63)).toInt64))) z H locs := hB
        refine lv_aload_n hx hb d_Model_doStep_142 rfl (lv_at hl 2 rfl) ?_
        refine zw_getR X hB fl_Model_57 32 (hm 32 _ rfl) rfl d_Model_doStep_143 ?_
        refine lv_iload_n hx hb d_Model_doStep_146 rfl (lv_at hl 4 rfl) ?_
        refine zw_iald X hB 48 (hm 48 _ rfl) h1 d_Model_doStep_147 ?_
        refine lv_aload_n hx hb d_Model_doStep_148 rfl (lv_at hl 2 rfl) ?_
        refine zw_getR X hB fl_Model_7 32 (hm 32 _ rfl) rfl d_Model_doStep_149 ?_
        refine lv_iload_n hx hb d_Model_doStep_152 rfl (lv_at hl 4 rfl) ?_
        refine zw_iald X hB 33 (hm 33 _ rfl) h1 d_Model_doStep_153 ?_
        refine lv_icmp_ne (tgt := 199) hx hb d_Model_doStep_154 (by decide) (fun c_154 => ?_) (fun c_154 => ?_)
        · rw [if_neg c_154]
          exact zc_vret X hr hlocks hB (by rfl) (by rfl) (by rfl) d_Model_doStep_199
        · rw [if_pos c_154]
          refine lv_aload_n hx hb d_Model_doStep_157 rfl (lv_at hl 2 rfl) ?_
          refine zw_getR X hB fl_Model_66 32 (hm 32 _ rfl) rfl d_Model_doStep_158 ?_
          refine lv_aload_n hx hb d_Model_doStep_161 rfl (lv_at hl 2 rfl) ?_
          refine zw_getI X hB fl_Model_116 32 (hm 32 _ rfl) rfl d_Model_doStep_162 ?_
          refine lv_iload_n hx hb d_Model_doStep_165 rfl (lv_at hl 4 rfl) ?_
          refine zw_iast X hB 51 (hm 51 _ rfl) (by have h9 := hT.2.2.1; simpa [q_step1, zw_up] using h9) d_Model_doStep_166 (fun H locs hB => ?_)
          obtain ⟨mi_1, emi_1⟩ : ∃ y, y = zw_up (q_step1 x mi) 51 ((q_step1 x mi) 32 29).toNatClampNeg x := ⟨_, rfl⟩
          rw [← emi_1] at hB
          refine lv_aload_n hx hb d_Model_doStep_167 rfl (lv_at hl 2 rfl) ?_
          refine lv_dup hx hb d_Model_doStep_168 rfl ?_
          refine zw_getI X hB fl_Model_116 32 (hm 32 _ rfl) rfl d_Model_doStep_169 ?_
          refine lv_iconst (v := 1) hx hb d_Model_doStep_172 (by decide) ?_
          refine lv_iadd hx hb d_Model_doStep_173 ?_
          refine zw_putI X hB fp_Model_116 (fun h => by cases h) 32 (hm 32 _ rfl) rfl d_Model_doStep_174 (fun H locs hB => ?_)
          obtain ⟨mi_2, emi_2⟩ : ∃ y, y = zw_up mi_1 32 29 ((mi_1 32 29) + 1) := ⟨_, rfl⟩
          rw [← emi_2] at hB
          refine lv_aload_n hx hb d_Model_doStep_177 rfl (lv_at hl 2 rfl) ?_
          refine lv_dup hx hb d_Model_doStep_178 rfl ?_
          refine zw_getI X hB fl_Model_105 32 (hm 32 _ rfl) rfl d_Model_doStep_179 ?_
          refine lv_aload_n hx hb d_Model_doStep_182 rfl (lv_at hl 2 rfl) ?_
          refine zw_getR X hB fl_Model_13 32 (hm 32 _ rfl) rfl d_Model_doStep_183 ?_
          refine lv_iload_n hx hb d_Model_doStep_186 rfl (lv_at hl 4 rfl) ?_
          refine zw_iald X hB 34 (hm 34 _ rfl) h1 d_Model_doStep_187 ?_
          refine lv_isub hx hb d_Model_doStep_188 ?_
          refine zw_putI X hB fp_Model_105 (fun h => by cases h) 32 (hm 32 _ rfl) rfl d_Model_doStep_189 (fun H locs hB => ?_)
          obtain ⟨mi_3, emi_3⟩ : ∃ y, y = zw_up mi_2 32 24 ((mi_2 32 24) - (mi_2 34 x.toNatClampNeg)) := ⟨_, rfl⟩
          rw [← emi_3] at hB
          refine lv_aload_n hx hb d_Model_doStep_192 rfl (lv_at hl 2 rfl) ?_
          refine zw_getR X hB fl_Model_60 32 (hm 32 _ rfl) rfl d_Model_doStep_193 ?_
          refine lv_iload_n hx hb d_Model_doStep_196 rfl (lv_at hl 3 rfl) ?_
          refine lv_iconst (v := (-1)) hx hb d_Model_doStep_197 (by decide) ?_
          refine zw_iast X hB 49 (hm 49 _ rfl) hw d_Model_doStep_198 (fun H locs hB => ?_)
          obtain ⟨mi_4, emi_4⟩ : ∃ y, y = zw_up mi_3 49 wk.toNatClampNeg (-1) := ⟨_, rfl⟩
          rw [← emi_4] at hB
          exact zc_vret X hr hlocks hB (by subst emi_4; subst emi_3; subst emi_2; subst emi_1; rfl) (by subst emi_4; subst emi_3; subst emi_2; subst emi_1; rfl) (by subst emi_4; subst emi_3; subst emi_2; subst emi_1; rfl) d_Model_doStep_199
      · rw [if_neg c_40]
        have hlt : i < w6 := zn_lt (by omega) (by rw [← ew]; exact c_40)
        have hin := zm_at h1 i (by omega)
        have ho1 := hN.2.1 _ (vlt hin)
        refine lv_bipush (v := 6) hx hb d_Model_doStep_43 (by decide) ?_
        refine lv_iload_n hx hb d_Model_doStep_45 rfl (lv_at hl 4 rfl) ?_
        refine lv_imul hx hb d_Model_doStep_46 ?_
        refine lv_iload hx hb d_Model_doStep_47 (lv_at hl 0 rfl) ?_
        refine lv_iadd hx hb d_Model_doStep_49 ?_
        refine lv_istore (lv' := [(7, .int ((6 * x) + (nI i))), (6, .int (nI i)), (4, .long a), (0, .ref (ad 32)), (1, .int wk), (2, .int x), (3, .int (mi 48 x.toNatClampNeg))]) hx hb d_Model_doStep_50 hl (by decide) rfl (fun ls hl => ?_)
        refine lv_lload hx hb d_Model_doStep_52 (lv_at hl 2 rfl) ?_
        refine lv_aload_n hx hb d_Model_doStep_54 rfl (lv_at hl 3 rfl) ?_
        refine zw_getR X hB fl_Model_23 32 (hm 32 _ rfl) rfl d_Model_doStep_55 ?_
        refine lv_iload hx hb d_Model_doStep_58 (lv_at hl 0 rfl) ?_
        refine zw_iald X hB 37 (hm 37 _ rfl) hin d_Model_doStep_60 ?_
        refine lv_iload_n hx hb d_Model_doStep_61 rfl (lv_at hl 6 rfl) ?_
        refine lv_icmp_ne (tgt := 91) hx hb d_Model_doStep_62 (by decide) (fun c_62 => ?_) (fun c_62 => ?_)
        · rw [if_neg c_62]
          refine lv_lconst (v := 0) hx hb d_Model_doStep_91 (by decide) ?_
          refine lv_ladd hx hb d_Model_doStep_92 ?_
          refine lv_lstore (lv' := [(4, .long (a + 0)), (7, .int ((6 * x) + (nI i))), (6, .int (nI i)), (0, .ref (ad 32)), (1, .int wk), (2, .int x), (3, .int (mi 48 x.toNatClampNeg))]) hx hb d_Model_doStep_93 hl (by decide) rfl (fun ls hl => ?_)
          refine lv_iinc (v := nI (i + 1)) (lv' := [(6, .int (nI (i + 1))), (4, .long (a + 0)), (7, .int ((6 * x) + (nI i))), (0, .ref (ad 32)), (1, .int wk), (2, .int x), (3, .int (mi 48 x.toNatClampNeg))]) hx hb d_Model_doStep_95 hl (k := 2) rfl (nI_1 i) (by decide) rfl (fun ls hl => ?_)
          refine lv_goto (tgt := 32) hx hb d_Model_doStep_98 (by decide) ?_
          rw [nI_1 i]
          exact ih (i + 1) _  H locs ls (by omega) (by omega) hB (lv_sub hl [0, 1, 3, 4, 5, 6] rfl)
        · rw [if_pos c_62]
          refine lv_aload_n hx hb d_Model_doStep_65 rfl (lv_at hl 3 rfl) ?_
          refine zw_getR X hB fl_Model_54 32 (hm 32 _ rfl) rfl d_Model_doStep_66 ?_
          refine lv_bipush (v := 21) hx hb d_Model_doStep_69 (by decide) ?_
          refine lv_aload_n hx hb d_Model_doStep_71 rfl (lv_at hl 3 rfl) ?_
          refine zw_getR X hB fl_Model_26 32 (hm 32 _ rfl) rfl d_Model_doStep_72 ?_
          refine lv_iload hx hb d_Model_doStep_75 (lv_at hl 0 rfl) ?_
          refine zw_iald X hB 38 (hm 38 _ rfl) hin d_Model_doStep_77 ?_
          refine lv_imul hx hb d_Model_doStep_78 ?_
          refine lv_aload_n hx hb d_Model_doStep_79 rfl (lv_at hl 3 rfl) ?_
          refine zw_getR X hB fl_Model_29 32 (hm 32 _ rfl) rfl d_Model_doStep_80 ?_
          refine lv_iload hx hb d_Model_doStep_83 (lv_at hl 0 rfl) ?_
          refine zw_iald X hB 39 (hm 39 _ rfl) hin d_Model_doStep_85 ?_
          refine lv_iadd hx hb d_Model_doStep_86 ?_
          refine zw_lald X hB 47 (hm 47 _ rfl) (zm_21 ho1.1 ho1.2) d_Model_doStep_87 ?_
          refine lv_goto (tgt := 92) hx hb d_Model_doStep_88 (by decide) ?_
          refine lv_ladd hx hb d_Model_doStep_92 ?_
          refine lv_lstore (lv' := [(4, .long (a + (ml 47 ((21 * (mi 38 ((6 * x) + (nI i)).toNatClampNeg)) + (mi 39 ((6 * x) + (nI i)).toNatClampNeg)).toNatClampNeg))), (7, .int ((6 * x) + (nI i))), (6, .int (nI i)), (0, .ref (ad 32)), (1, .int wk), (2, .int x), (3, .int (mi 48 x.toNatClampNeg))]) hx hb d_Model_doStep_93 hl (by decide) rfl (fun ls hl => ?_)
          refine lv_iinc (v := nI (i + 1)) (lv' := [(6, .int (nI (i + 1))), (4, .long (a + (ml 47 ((21 * (mi 38 ((6 * x) + (nI i)).toNatClampNeg)) + (mi 39 ((6 * x) + (nI i)).toNatClampNeg)).toNatClampNeg))), (7, .int ((6 * x) + (nI i))), (0, .ref (ad 32)), (1, .int wk), (2, .int x), (3, .int (mi 48 x.toNatClampNeg))]) hx hb d_Model_doStep_95 hl (k := 2) rfl (nI_1 i) (by decide) rfl (fun ls hl => ?_)
          refine lv_goto (tgt := 32) hx hb d_Model_doStep_98 (by decide) ?_
          rw [nI_1 i]
          exact ih (i + 1) _  H locs ls (by omega) (by omega) hB (lv_sub hl [0, 1, 3, 4, 5, 6] rfl)
  refine lv_aload_n hx hb d_Model_doStep_0 rfl (lv_at hl 0 rfl) ?_
  refine zw_getR X hB fl_Model_57 32 (hm 32 _ rfl) rfl d_Model_doStep_1 ?_
  refine lv_iload_n hx hb d_Model_doStep_4 rfl (lv_at hl 2 rfl) ?_
  refine zw_iald X hB 48 (hm 48 _ rfl) h1 d_Model_doStep_5 ?_
  refine lv_istore_n (lv' := [(3, .int (mi 48 x.toNatClampNeg)), (0, .ref (ad 32)), (1, .int wk), (2, .int x)]) hx hb d_Model_doStep_6 rfl hl (by decide) rfl (fun ls hl => ?_)
  refine lv_aload_n hx hb d_Model_doStep_7 rfl (lv_at hl 1 rfl) ?_
  refine zw_getR X hB fl_Model_54 32 (hm 32 _ rfl) rfl d_Model_doStep_8 ?_
  refine lv_bipush (v := 21) hx hb d_Model_doStep_11 (by decide) ?_
  refine lv_iload_n hx hb d_Model_doStep_13 rfl (lv_at hl 3 rfl) ?_
  refine lv_imul hx hb d_Model_doStep_14 ?_
  refine lv_iload_n hx hb d_Model_doStep_15 rfl (lv_at hl 0 rfl) ?_
  refine lv_iadd hx hb d_Model_doStep_16 ?_
  refine zw_lald X hB 47 (hm 47 _ rfl) (zm_21 h1 hT.1) d_Model_doStep_17 ?_
  refine lv_ldc2 (v := 6364136223846793005) hx hb X.2.2.2.1 (X.2.2.2.2.ts _ kc_Model_111) d_Model_doStep_18 ?_
  refine lv_lmul hx hb d_Model_doStep_21 ?_
  refine lv_iload_n hx hb d_Model_doStep_22 rfl (lv_at hl 0 rfl) ?_
  refine lv_i2l (v := (mi 48 x.toNatClampNeg).toInt64) hx hb d_Model_doStep_23 rfl ?_
  refine lv_ladd hx hb d_Model_doStep_24 ?_
  refine lv_lconst (v := 1) hx hb d_Model_doStep_25 (by decide) ?_
  refine lv_ladd hx hb d_Model_doStep_26 ?_
  refine lv_lstore (lv' := [(4, .long ((((ml 47 ((21 * x) + (mi 48 x.toNatClampNeg)).toNatClampNeg) * 6364136223846793005) + ((mi 48 x.toNatClampNeg).toInt64)) + 1)), (3, .int (mi 48 x.toNatClampNeg)), (0, .ref (ad 32)), (1, .int wk), (2, .int x)]) hx hb d_Model_doStep_27 hl (by decide) rfl (fun ls hl => ?_)
  refine lv_iconst (v := 0) hx hb d_Model_doStep_29 (by decide) ?_
  refine lv_istore (lv' := [(6, .int 0), (4, .long ((((ml 47 ((21 * x) + (mi 48 x.toNatClampNeg)).toNatClampNeg) * 6364136223846793005) + ((mi 48 x.toNatClampNeg).toInt64)) + 1)), (3, .int (mi 48 x.toNatClampNeg)), (0, .ref (ad 32)), (1, .int wk), (2, .int x)]) hx hb d_Model_doStep_30 hl (by decide) rfl (fun ls hl => ?_)
  exact loop 7 0 _  _ _ ls rfl (by omega) hB (lv_sub hl [0, 1, 3, 4, 5, 2] rfl)

set_option maxHeartbeats 4000000 in
set_option maxRecDepth 100000 in
theorem c_Model_tick {l : Launch} {D : va_G} {cA : Nat → ClassId} {ad : Nat → Nat} {sh : zw_Sh} (hm : ∀ (k : Nat) (q : zw_Sp), shM k = some q → sh k = some q) (z : Nat) (mi : zw_I) (ml : zw_L) (wk : Int32) (hw : vp_in wk 16) (hN : zm_N mi) (hq0 : vp_in (mi 50 (0 : Int32).toNatClampNeg) 16) (hq : ¬ q_canTake mi = 0 → ∃ q : Nat, q < 16 ∧ mi 32 23 = nI (q + 1)) (hT : 0 ≤ mi 49 wk.toNatClampNeg → vp_in (mi 49 wk.toNatClampNeg) 16 ∧ (¬ q_waits mi (mi 49 wk.toNatClampNeg) 7 0 < 0 → vp_in (q_waits mi (mi 49 wk.toNatClampNeg) 7 0) 96) ∧ zm_T mi (mi 49 wk.toNatClampNeg)) :
    zc_M l D cA Y_Model_tick 1 0 0 ad sh sh z [.ref (ad 32), .int wk] mi ml none ((q_tick wk mi ml).1) ((q_tick wk mi ml).2) z := by
  refine zc_enter (own := R_Model) (by decide) rfl (Nat.le_of_ble_eq_true rfl) ?_
  intro p e s m below meth c X hr hlocks hnm hB ls hl
  have X : zw_C D cA R_Model prog_9_method_15_code 4 p m c s := X
  have hr : meth.sig.returnType = none := hr
  have hx := X.1
  have hb := X.2.1
  have hl : lv_has ls 4 [(0, .ref (ad 32)), (1, .int wk)] := hl
  unfold q_tick q_tick2
  refine lv_aload_n hx hb d_Model_tick_0 rfl (lv_at hl 0 rfl) ?_
  refine zw_getR X hB fl_Model_60 32 (hm 32 _ rfl) rfl d_Model_tick_1 ?_
  refine lv_iload_n hx hb d_Model_tick_4 rfl (lv_at hl 1 rfl) ?_
  refine zw_iald X hB 49 (hm 49 _ rfl) hw d_Model_tick_5 ?_
  refine lv_istore_n (lv' := [(2, .int (mi 49 wk.toNatClampNeg)), (0, .ref (ad 32)), (1, .int wk)]) hx hb d_Model_tick_6 rfl hl (by decide) rfl (fun ls hl => ?_)
  refine lv_iload_n hx hb d_Model_tick_7 rfl (lv_at hl 0 rfl) ?_
  refine lv_if_ge (tgt := 37) hx hb d_Model_tick_8 (by decide) (fun c_8 => ?_) (fun c_8 => ?_)
  · rw [if_pos c_8]
    unfold q_tick3
    obtain ⟨hy, hwt, hTT⟩ := hT c_8
    obtain ⟨w6, hw6, ew6⟩ := hN.1 _ (vlt hy)
    refine lv_aload_n hx hb d_Model_tick_37 rfl (lv_at hl 1 rfl) ?_
    refine lv_iload_n hx hb d_Model_tick_38 rfl (lv_at hl 0 rfl) ?_
    refine zw_callVr X hB mv_Model_130 32 (hm 32 _ rfl) rfl (c_Model_waitsFor hm z mi ml (mi 49 wk.toNatClampNeg) hy w6 hw6 ew6 (fun k hk => zm_at hy k hk) (fun k hk => (hN.2.1 k hk).1)) rfl hl.1 ⟨Nat.le_of_ble_eq_true rfl, Nat.le_of_ble_eq_true rfl⟩ rfl (Nat.le_of_ble_eq_true rfl) ⟨Nat.le_of_ble_eq_true rfl, Nat.le_of_ble_eq_true rfl⟩ d_Model_tick_39 (fun H locs hB => ?_)
    refine lv_istore_n (lv' := [(3, .int (q_waits mi (mi 49 wk.toNatClampNeg) 7 0)), (2, .int (mi 49 wk.toNatClampNeg)), (0, .ref (ad 32)), (1, .int wk)]) hx hb d_Model_tick_42 rfl hl (by decide) rfl (fun ls hl => ?_)
    refine lv_iload_n hx hb d_Model_tick_43 rfl (lv_at hl 0 rfl) ?_
    refine lv_if_lt (tgt := 80) hx hb d_Model_tick_44 (by decide) (fun c_44 => ?_) (fun c_44 => ?_)
    · rw [if_pos c_44]
      unfold q_tick4
      obtain ⟨w8, hw8, ew8⟩ := hN.2.2
      refine lv_aload_n hx hb d_Model_tick_80 rfl (lv_at hl 2 rfl) ?_
      refine lv_iload_n hx hb d_Model_tick_81 rfl (lv_at hl 3 rfl) ?_
      refine lv_iload_n hx hb d_Model_tick_82 rfl (lv_at hl 1 rfl) ?_
      refine zw_callVr X hB mv_Model_137 32 (hm 32 _ rfl) rfl (c_Model_fails hm z mi ml wk (mi 49 wk.toNatClampNeg) hy w8 hw8 ew8) rfl hl.1 ⟨Nat.le_of_ble_eq_true rfl, Nat.le_of_ble_eq_true rfl⟩ rfl (Nat.le_of_ble_eq_true rfl) ⟨Nat.le_of_ble_eq_true rfl, Nat.le_of_ble_eq_true rfl⟩ d_Model_tick_83 (fun H locs hB => ?_)
      obtain ⟨mi_1, emi_1⟩ : ∃ y, y = (q_fails wk (mi 49 wk.toNatClampNeg) mi 9 0).2 := ⟨_, rfl⟩
      rw [← emi_1] at hB
      refine lv_if_eq (tgt := 152) hx hb d_Model_tick_86 (by decide) (fun c_86 => ?_) (fun c_86 => ?_)
      · rw [if_pos c_86]
        have hN2 : zm_N mi_1 := (by rw [emi_1]; exact zm_N_same (fun a b h => q_fails_off h _ _) hN)
        have hT2 : zm_T mi_1 (mi 49 wk.toNatClampNeg) := (by rw [emi_1]; exact zm_T_same (fun a b h => q_fails_off h _ _) hTT)
        refine lv_aload_n hx hb d_Model_tick_152 rfl (lv_at hl 2 rfl) ?_
        refine lv_iload_n hx hb d_Model_tick_153 rfl (lv_at hl 3 rfl) ?_
        refine lv_iload_n hx hb d_Model_tick_154 rfl (lv_at hl 1 rfl) ?_
        refine zw_callVv X hB mv_Model_144 32 (hm 32 _ rfl) rfl (c_Model_doStep hm z mi_1 ml wk (mi 49 wk.toNatClampNeg) hw hy hN2 hT2) rfl hl.1 ⟨Nat.le_of_ble_eq_true rfl, Nat.le_of_ble_eq_true rfl⟩ rfl (Nat.le_of_ble_eq_true rfl) ⟨Nat.le_of_ble_eq_true rfl, Nat.le_of_ble_eq_true rfl⟩ d_Model_tick_155 (fun H locs hB => ?_)
        obtain ⟨mi_2, emi_2⟩ : ∃ y, y = q_step wk (mi 49 wk.toNatClampNeg) mi_1 := ⟨_, rfl⟩
        rw [← emi_2] at hB
        obtain ⟨ml_3, eml_3⟩ : ∃ y, y = q_stepL mi_1 ml (mi 49 wk.toNatClampNeg) := ⟨_, rfl⟩
        rw [← eml_3] at hB
        exact zc_vret X hr hlocks hB (by subst eml_3; subst emi_2; subst emi_1; rfl) (by subst eml_3; subst emi_2; subst emi_1; rfl) (by subst eml_3; subst emi_2; subst emi_1; rfl) d_Model_tick_158
      · rw [if_neg c_86]
        have hT2 : zm_T mi_1 (mi 49 wk.toNatClampNeg) := (by rw [emi_1]; exact zm_T_same (fun a b h => q_fails_off h _ _) hTT)
        refine lv_aload_n hx hb d_Model_tick_89 rfl (lv_at hl 2 rfl) ?_
        refine zw_getR X hB fl_Model_60 32 (hm 32 _ rfl) rfl d_Model_tick_90 ?_
        refine lv_iload_n hx hb d_Model_tick_93 rfl (lv_at hl 3 rfl) ?_
        refine lv_bipush (v := (-2)) hx hb d_Model_tick_94 (by decide) ?_
        refine zw_iast X hB 49 (hm 49 _ rfl) hw d_Model_tick_96 (fun H locs hB => ?_)
        obtain ⟨mi_4, emi_4⟩ : ∃ y, y = zw_up mi_1 49 wk.toNatClampNeg (-2) := ⟨_, rfl⟩
        rw [← emi_4] at hB
        refine lv_aload_n hx hb d_Model_tick_97 rfl (lv_at hl 2 rfl) ?_
        refine lv_dup hx hb d_Model_tick_98 rfl ?_
        refine zw_getI X hB fl_Model_141 32 (hm 32 _ rfl) rfl d_Model_tick_99 ?_
        refine lv_iconst (v := 1) hx hb d_Model_tick_102 (by decide) ?_
        refine lv_isub hx hb d_Model_tick_103 ?_
        refine zw_putI X hB fp_Model_141 (fun h => by cases h) 32 (hm 32 _ rfl) rfl d_Model_tick_104 (fun H locs hB => ?_)
        obtain ⟨mi_5, emi_5⟩ : ∃ y, y = zw_up mi_4 32 25 ((mi_4 32 25) - 1) := ⟨_, rfl⟩
        rw [← emi_5] at hB
        refine lv_aload_n hx hb d_Model_tick_107 rfl (lv_at hl 2 rfl) ?_
        refine zw_getR X hB fl_Model_57 32 (hm 32 _ rfl) rfl d_Model_tick_108 ?_
        refine lv_iload_n hx hb d_Model_tick_111 rfl (lv_at hl 1 rfl) ?_
        refine lv_iconst (v := 0) hx hb d_Model_tick_112 (by decide) ?_
        refine zw_iast X hB 48 (hm 48 _ rfl) hy d_Model_tick_113 (fun H locs hB => ?_)
        obtain ⟨mi_6, emi_6⟩ : ∃ y, y = zw_up mi_5 48 (mi 49 wk.toNatClampNeg).toNatClampNeg 0 := ⟨_, rfl⟩
        rw [← emi_6] at hB
        refine lv_aload_n hx hb d_Model_tick_114 rfl (lv_at hl 2 rfl) ?_
        refine lv_dup hx hb d_Model_tick_115 rfl ?_
        refine zw_getI X hB fl_Model_105 32 (hm 32 _ rfl) rfl d_Model_tick_116 ?_
        refine lv_aload_n hx hb d_Model_tick_119 rfl (lv_at hl 2 rfl) ?_
        refine zw_getR X hB fl_Model_13 32 (hm 32 _ rfl) rfl d_Model_tick_120 ?_
        refine lv_iload_n hx hb d_Model_tick_123 rfl (lv_at hl 1 rfl) ?_
        refine zw_iald X hB 34 (hm 34 _ rfl) hy d_Model_tick_124 ?_
        refine lv_isub hx hb d_Model_tick_125 ?_
        refine zw_putI X hB fp_Model_105 (fun h => by cases h) 32 (hm 32 _ rfl) rfl d_Model_tick_126 (fun H locs hB => ?_)
        obtain ⟨mi_7, emi_7⟩ : ∃ y, y = zw_up mi_6 32 24 ((mi_6 32 24) - (mi_6 34 (mi 49 wk.toNatClampNeg).toNatClampNeg)) := ⟨_, rfl⟩
        rw [← emi_7] at hB
        refine lv_aload_n hx hb d_Model_tick_129 rfl (lv_at hl 2 rfl) ?_
        refine zw_getR X hB fl_Model_63 32 (hm 32 _ rfl) rfl d_Model_tick_130 ?_
        refine lv_aload_n hx hb d_Model_tick_133 rfl (lv_at hl 2 rfl) ?_
        refine zw_getI X hB fl_Model_102 32 (hm 32 _ rfl) rfl d_Model_tick_134 ?_
        refine lv_iload_n hx hb d_Model_tick_137 rfl (lv_at hl 1 rfl) ?_
        refine zw_iast X hB 50 (hm 50 _ rfl) (by subst_vars; have h9 := hT2.2.2.2; simpa [zw_up] using h9) d_Model_tick_138 (fun H locs hB => ?_)
        obtain ⟨mi_8, emi_8⟩ : ∃ y, y = zw_up mi_7 50 (mi_7 32 23).toNatClampNeg (mi 49 wk.toNatClampNeg) := ⟨_, rfl⟩
        rw [← emi_8] at hB
        refine lv_aload_n hx hb d_Model_tick_139 rfl (lv_at hl 2 rfl) ?_
        refine lv_dup hx hb d_Model_tick_140 rfl ?_
        refine zw_getI X hB fl_Model_102 32 (hm 32 _ rfl) rfl d_Model_tick_141 ?_
        refine lv_iconst (v := 1) hx hb d_Model_tick_144 (by decide) ?_
        refine lv_iadd hx hb d_Model_tick_145 ?_
        refine zw_putI X hB fp_Model_102 (fun h => by cases h) 32 (hm 32 _ rfl) rfl d_Model_tick_146 (fun H locs hB => ?_)
        obtain ⟨mi_9, emi_9⟩ : ∃ y, y = zw_up mi_8 32 23 ((mi_8 32 23) + 1) := ⟨_, rfl⟩
        rw [← emi_9] at hB
        refine lv_goto (tgt := 158) hx hb d_Model_tick_149 (by decide) ?_
        exact zc_vret X hr hlocks hB (by subst emi_9; subst emi_8; subst emi_7; subst emi_6; subst emi_5; subst emi_4; subst emi_1; rfl) (by subst emi_9; subst emi_8; subst emi_7; subst emi_6; subst emi_5; subst emi_4; subst emi_1; rfl) (by subst emi_9; subst emi_8; subst emi_7; subst emi_6; subst emi_5; subst emi_4; subst emi_1; rfl) d_Model_tick_158
    · rw [if_neg c_44]
      have hin := hwt c_44
      have ho1 := (hN.2.1 _ (vlt hin)).1
      refine lv_aload_n hx hb d_Model_tick_47 rfl (lv_at hl 2 rfl) ?_
      refine zw_getR X hB fl_Model_72 32 (hm 32 _ rfl) rfl d_Model_tick_48 ?_
      refine lv_bipush (v := 16) hx hb d_Model_tick_51 (by decide) ?_
      refine lv_iload_n hx hb d_Model_tick_53 rfl (lv_at hl 1 rfl) ?_
      refine lv_imul hx hb d_Model_tick_54 ?_
      refine lv_aload_n hx hb d_Model_tick_55 rfl (lv_at hl 2 rfl) ?_
      refine zw_getR X hB fl_Model_26 32 (hm 32 _ rfl) rfl d_Model_tick_56 ?_
      refine lv_iload_n hx hb d_Model_tick_59 rfl (lv_at hl 0 rfl) ?_
      refine zw_iald X hB 38 (hm 38 _ rfl) hin d_Model_tick_60 ?_
      refine lv_iadd hx hb d_Model_tick_61 ?_
      refine lv_dup2_11 hx hb d_Model_tick_62 rfl rfl ?_
      refine zw_iald X hB 53 (hm 53 _ rfl) (zm_16 hy ho1) d_Model_tick_63 ?_
      refine lv_iconst (v := 1) hx hb d_Model_tick_64 (by decide) ?_
      refine lv_iadd hx hb d_Model_tick_65 ?_
      refine zw_iast X hB 53 (hm 53 _ rfl) (zm_16 hy ho1) d_Model_tick_66 (fun H locs hB => ?_)
      obtain ⟨mi_10, emi_10⟩ : ∃ y, y = zw_up mi 53 ((16 * (mi 49 wk.toNatClampNeg)) + (mi 38 (q_waits mi (mi 49 wk.toNatClampNeg) 7 0).toNatClampNeg)).toNatClampNeg ((mi 53 ((16 * (mi 49 wk.toNatClampNeg)) + (mi 38 (q_waits mi (mi 49 wk.toNatClampNeg) 7 0).toNatClampNeg)).toNatClampNeg) + 1) := ⟨_, rfl⟩
      rw [← emi_10] at hB
      refine lv_aload_n hx hb d_Model_tick_67 rfl (lv_at hl 2 rfl) ?_
      refine lv_dup hx hb d_Model_tick_68 rfl ?_
      refine zw_getI X hB fl_Model_134 32 (hm 32 _ rfl) rfl d_Model_tick_69 ?_
      refine lv_iconst (v := 1) hx hb d_Model_tick_72 (by decide) ?_
      refine lv_iadd hx hb d_Model_tick_73 ?_
      refine zw_putI X hB fp_Model_134 (fun h => by cases h) 32 (hm 32 _ rfl) rfl d_Model_tick_74 (fun H locs hB => ?_)
      obtain ⟨mi_11, emi_11⟩ : ∃ y, y = zw_up mi_10 32 32 ((mi_10 32 32) + 1) := ⟨_, rfl⟩
      rw [← emi_11] at hB
      refine lv_goto (tgt := 158) hx hb d_Model_tick_77 (by decide) ?_
      exact zc_vret X hr hlocks hB (by subst emi_11; subst emi_10; rfl) (by subst emi_11; subst emi_10; rfl) (by subst emi_11; subst emi_10; rfl) d_Model_tick_158
  · rw [if_neg c_8]
    refine lv_aload_n hx hb d_Model_tick_11 rfl (lv_at hl 1 rfl) ?_
    refine zw_callVr X hB mv_Model_119 32 (hm 32 _ rfl) rfl (c_Model_canTake hm z mi ml hq0) rfl hl.1 ⟨Nat.le_of_ble_eq_true rfl, Nat.le_of_ble_eq_true rfl⟩ rfl (Nat.le_of_ble_eq_true rfl) ⟨Nat.le_of_ble_eq_true rfl, Nat.le_of_ble_eq_true rfl⟩ d_Model_tick_12 (fun H locs hB => ?_)
    refine lv_if_eq (tgt := 26) hx hb d_Model_tick_15 (by decide) (fun c_15 => ?_) (fun c_15 => ?_)
    · rw [if_pos c_15]
      refine lv_aload_n hx hb d_Model_tick_26 rfl (lv_at hl 1 rfl) ?_
      refine lv_dup hx hb d_Model_tick_27 rfl ?_
      refine zw_getI X hB fl_Model_127 32 (hm 32 _ rfl) rfl d_Model_tick_28 ?_
      refine lv_iconst (v := 1) hx hb d_Model_tick_31 (by decide) ?_
      refine lv_iadd hx hb d_Model_tick_32 ?_
      refine zw_putI X hB fp_Model_127 (fun h => by cases h) 32 (hm 32 _ rfl) rfl d_Model_tick_33 (fun H locs hB => ?_)
      obtain ⟨mi_12, emi_12⟩ : ∃ y, y = zw_up mi 32 31 ((mi 32 31) + 1) := ⟨_, rfl⟩
      rw [← emi_12] at hB
      exact zc_vret X hr hlocks hB (by subst emi_12; rfl) (by subst emi_12; rfl) (by subst emi_12; rfl) d_Model_tick_36
    · rw [if_neg c_15]
      obtain ⟨q, hq1, hq2⟩ := hq c_15
      refine lv_aload_n hx hb d_Model_tick_18 rfl (lv_at hl 1 rfl) ?_
      refine lv_iload_n hx hb d_Model_tick_19 rfl (lv_at hl 2 rfl) ?_
      refine zw_callVv X hB mv_Model_123 32 (hm 32 _ rfl) rfl (c_Model_take hm z mi ml wk hw hq0 q hq1 hq2) rfl hl.1 ⟨Nat.le_of_ble_eq_true rfl, Nat.le_of_ble_eq_true rfl⟩ rfl (Nat.le_of_ble_eq_true rfl) ⟨Nat.le_of_ble_eq_true rfl, Nat.le_of_ble_eq_true rfl⟩ d_Model_tick_20 (fun H locs hB => ?_)
      obtain ⟨mi_13, emi_13⟩ : ∃ y, y = q_take wk mi := ⟨_, rfl⟩
      rw [← emi_13] at hB
      refine lv_goto (tgt := 36) hx hb d_Model_tick_23 (by decide) ?_
      exact zc_vret X hr hlocks hB (by subst emi_13; rfl) (by subst emi_13; rfl) (by subst emi_13; rfl) d_Model_tick_36
