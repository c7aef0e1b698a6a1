abbrev Y_TS_isWithin : zc_Y := (⟨R_TS, "isWithin", "(III)Z"⟩, prog_1_method_15_code, 3, (some FieldType.boolean))
abbrev Y_TS_isStep : zc_Y := (⟨R_TS, "isStep", "(I)Z"⟩, prog_1_method_16_code, 1, (some FieldType.boolean))
abbrev Y_TS_isShare : zc_Y := (⟨R_TS, "isShare", "(I)Z"⟩, prog_1_method_17_code, 2, (some FieldType.boolean))
abbrev Y_TS_nearest : zc_Y := (⟨R_TS, "nearest", "(III)I"⟩, prog_1_method_14_code, 3, (some FieldType.int))
abbrev Y_TS_countValues : zc_Y := (⟨R_TS, "countValues", "()I"⟩, prog_1_method_19_code, 3, (some FieldType.int))
abbrev Y_TS_told : zc_Y := (⟨R_TS, "told", "(I)I"⟩, prog_1_method_12_code, 2, (some FieldType.int))
abbrev Y_TS_putValues : zc_Y := (⟨R_TS, "putValues", "()V"⟩, prog_1_method_18_code, 2, none)
abbrev Y_TS_clear : zc_Y := (⟨R_TS, "clear", "()V"⟩, prog_1_method_13_code, 2, none)
theorem d_TS_isWithin_0 : decode prog_1_method_15_code 0 = .ok (.iload_n 0, 1) := by decide +kernel
theorem d_TS_isWithin_1 : decode prog_1_method_15_code 1 = .ok (.iload_n 1, 1) := by decide +kernel
theorem d_TS_isWithin_2 : decode prog_1_method_15_code 2 = .ok (.if_icmp .lt 12, 3) := by decide +kernel
theorem d_TS_isWithin_5 : decode prog_1_method_15_code 5 = .ok (.iload_n 0, 1) := by decide +kernel
theorem d_TS_isWithin_6 : decode prog_1_method_15_code 6 = .ok (.iload_n 2, 1) := by decide +kernel
theorem d_TS_isWithin_7 : decode prog_1_method_15_code 7 = .ok (.if_icmp .gt 7, 3) := by decide +kernel
theorem d_TS_isWithin_10 : decode prog_1_method_15_code 10 = .ok (.iconst 1, 1) := by decide +kernel
theorem d_TS_isWithin_11 : decode prog_1_method_15_code 11 = .ok (.goto 4, 3) := by decide +kernel
theorem d_TS_isWithin_14 : decode prog_1_method_15_code 14 = .ok (.iconst 0, 1) := by decide +kernel
theorem d_TS_isWithin_15 : decode prog_1_method_15_code 15 = .ok (.ireturn, 1) := by decide +kernel
theorem d_TS_isStep_0 : decode prog_1_method_16_code 0 = .ok (.iload_n 0, 1) := by decide +kernel
theorem d_TS_isStep_1 : decode prog_1_method_16_code 1 = .ok (.iconst 0, 1) := by decide +kernel
theorem d_TS_isStep_2 : decode prog_1_method_16_code 2 = .ok (.bipush 19, 2) := by decide +kernel
theorem d_TS_isStep_4 : decode prog_1_method_16_code 4 = .ok (.invokestatic 50, 3) := by decide +kernel
theorem d_TS_isStep_7 : decode prog_1_method_16_code 7 = .ok (.ireturn, 1) := by decide +kernel
theorem d_TS_isShare_0 : decode prog_1_method_17_code 0 = .ok (.iload_n 1, 1) := by decide +kernel
theorem d_TS_isShare_1 : decode prog_1_method_17_code 1 = .ok (.iconst 0, 1) := by decide +kernel
theorem d_TS_isShare_2 : decode prog_1_method_17_code 2 = .ok (.aload_n 0, 1) := by decide +kernel
theorem d_TS_isShare_3 : decode prog_1_method_17_code 3 = .ok (.getfield 18, 3) := by decide +kernel
theorem d_TS_isShare_6 : decode prog_1_method_17_code 6 = .ok (.getfield 141, 3) := by decide +kernel
theorem d_TS_isShare_9 : decode prog_1_method_17_code 9 = .ok (.iconst 1, 1) := by decide +kernel
theorem d_TS_isShare_10 : decode prog_1_method_17_code 10 = .ok (.isub, 1) := by decide +kernel
theorem d_TS_isShare_11 : decode prog_1_method_17_code 11 = .ok (.invokestatic 50, 3) := by decide +kernel
theorem d_TS_isShare_14 : decode prog_1_method_17_code 14 = .ok (.ireturn, 1) := by decide +kernel
theorem d_TS_nearest_0 : decode prog_1_method_14_code 0 = .ok (.iload_n 1, 1) := by decide +kernel
theorem d_TS_nearest_1 : decode prog_1_method_14_code 1 = .ok (.iload_n 2, 1) := by decide +kernel
theorem d_TS_nearest_2 : decode prog_1_method_14_code 2 = .ok (.iload_n 0, 1) := by decide +kernel
theorem d_TS_nearest_3 : decode prog_1_method_14_code 3 = .ok (.invokestatic 177, 3) := by decide +kernel
theorem d_TS_nearest_6 : decode prog_1_method_14_code 6 = .ok (.invokestatic 183, 3) := by decide +kernel
theorem d_TS_nearest_9 : decode prog_1_method_14_code 9 = .ok (.ireturn, 1) := by decide +kernel
theorem d_TS_countValues_0 : decode prog_1_method_19_code 0 = .ok (.iconst 0, 1) := by decide +kernel
theorem d_TS_countValues_1 : decode prog_1_method_19_code 1 = .ok (.istore_n 1, 1) := by decide +kernel
theorem d_TS_countValues_2 : decode prog_1_method_19_code 2 = .ok (.iconst 0, 1) := by decide +kernel
theorem d_TS_countValues_3 : decode prog_1_method_19_code 3 = .ok (.istore_n 2, 1) := by decide +kernel
theorem d_TS_countValues_4 : decode prog_1_method_19_code 4 = .ok (.iload_n 2, 1) := by decide +kernel
theorem d_TS_countValues_5 : decode prog_1_method_19_code 5 = .ok (.aload_n 0, 1) := by decide +kernel
theorem d_TS_countValues_6 : decode prog_1_method_19_code 6 = .ok (.getfield 31, 3) := by decide +kernel
theorem d_TS_countValues_9 : decode prog_1_method_19_code 9 = .ok (.arraylength, 1) := by decide +kernel
theorem d_TS_countValues_10 : decode prog_1_method_19_code 10 = .ok (.if_icmp .ge 21, 3) := by decide +kernel
theorem d_TS_countValues_13 : decode prog_1_method_19_code 13 = .ok (.aload_n 0, 1) := by decide +kernel
theorem d_TS_countValues_14 : decode prog_1_method_19_code 14 = .ok (.getfield 31, 3) := by decide +kernel
theorem d_TS_countValues_17 : decode prog_1_method_19_code 17 = .ok (.iload_n 2, 1) := by decide +kernel
theorem d_TS_countValues_18 : decode prog_1_method_19_code 18 = .ok (.baload, 1) := by decide +kernel
theorem d_TS_countValues_19 : decode prog_1_method_19_code 19 = .ok (.ifCond .eq 6, 3) := by decide +kernel
theorem d_TS_countValues_22 : decode prog_1_method_19_code 22 = .ok (.iinc 1 1, 3) := by decide +kernel
theorem d_TS_countValues_25 : decode prog_1_method_19_code 25 = .ok (.iinc 2 1, 3) := by decide +kernel
theorem d_TS_countValues_28 : decode prog_1_method_19_code 28 = .ok (.goto (-24), 3) := by decide +kernel
theorem d_TS_countValues_31 : decode prog_1_method_19_code 31 = .ok (.iload_n 1, 1) := by decide +kernel
theorem d_TS_countValues_32 : decode prog_1_method_19_code 32 = .ok (.ireturn, 1) := by decide +kernel
theorem d_TS_told_0 : decode prog_1_method_12_code 0 = .ok (.iload_n 1, 1) := by decide +kernel
theorem d_TS_told_1 : decode prog_1_method_12_code 1 = .ok (.tableswitch 162 0 11 #[63, 71, 79, 90, 98, 106, 114, 122, 130, 138, 149, 157], 63) := by decide +kernel
theorem d_TS_told_64 : decode prog_1_method_12_code 64 = .ok (.aload_n 0, 1) := by decide +kernel
theorem d_TS_told_65 : decode prog_1_method_12_code 65 = .ok (.getfield 18, 3) := by decide +kernel
theorem d_TS_told_68 : decode prog_1_method_12_code 68 = .ok (.getfield 141, 3) := by decide +kernel
theorem d_TS_told_71 : decode prog_1_method_12_code 71 = .ok (.ireturn, 1) := by decide +kernel
theorem d_TS_told_72 : decode prog_1_method_12_code 72 = .ok (.aload_n 0, 1) := by decide +kernel
theorem d_TS_told_73 : decode prog_1_method_12_code 73 = .ok (.getfield 18, 3) := by decide +kernel
theorem d_TS_told_76 : decode prog_1_method_12_code 76 = .ok (.getfield 54, 3) := by decide +kernel
theorem d_TS_told_79 : decode prog_1_method_12_code 79 = .ok (.ireturn, 1) := by decide +kernel
theorem d_TS_told_80 : decode prog_1_method_12_code 80 = .ok (.aload_n 0, 1) := by decide +kernel
theorem d_TS_told_81 : decode prog_1_method_12_code 81 = .ok (.getfield 18, 3) := by decide +kernel
theorem d_TS_told_84 : decode prog_1_method_12_code 84 = .ok (.getfield 98, 3) := by decide +kernel
theorem d_TS_told_87 : decode prog_1_method_12_code 87 = .ok (.getfield 102, 3) := by decide +kernel
theorem d_TS_told_90 : decode prog_1_method_12_code 90 = .ok (.ireturn, 1) := by decide +kernel
theorem d_TS_told_91 : decode prog_1_method_12_code 91 = .ok (.aload_n 0, 1) := by decide +kernel
theorem d_TS_told_92 : decode prog_1_method_12_code 92 = .ok (.getfield 18, 3) := by decide +kernel
theorem d_TS_told_95 : decode prog_1_method_12_code 95 = .ok (.getfield 109, 3) := by decide +kernel
theorem d_TS_told_98 : decode prog_1_method_12_code 98 = .ok (.ireturn, 1) := by decide +kernel
theorem d_TS_told_99 : decode prog_1_method_12_code 99 = .ok (.aload_n 0, 1) := by decide +kernel
theorem d_TS_told_100 : decode prog_1_method_12_code 100 = .ok (.getfield 27, 3) := by decide +kernel
theorem d_TS_told_103 : decode prog_1_method_12_code 103 = .ok (.getfield 144, 3) := by decide +kernel
theorem d_TS_told_106 : decode prog_1_method_12_code 106 = .ok (.ireturn, 1) := by decide +kernel
theorem d_TS_told_107 : decode prog_1_method_12_code 107 = .ok (.aload_n 0, 1) := by decide +kernel
theorem d_TS_told_108 : decode prog_1_method_12_code 108 = .ok (.getfield 27, 3) := by decide +kernel
theorem d_TS_told_111 : decode prog_1_method_12_code 111 = .ok (.getfield 147, 3) := by decide +kernel
theorem d_TS_told_114 : decode prog_1_method_12_code 114 = .ok (.ireturn, 1) := by decide +kernel
theorem d_TS_told_115 : decode prog_1_method_12_code 115 = .ok (.aload_n 0, 1) := by decide +kernel
theorem d_TS_told_116 : decode prog_1_method_12_code 116 = .ok (.getfield 27, 3) := by decide +kernel
theorem d_TS_told_119 : decode prog_1_method_12_code 119 = .ok (.getfield 150, 3) := by decide +kernel
theorem d_TS_told_122 : decode prog_1_method_12_code 122 = .ok (.ireturn, 1) := by decide +kernel
theorem d_TS_told_123 : decode prog_1_method_12_code 123 = .ok (.aload_n 0, 1) := by decide +kernel
theorem d_TS_told_124 : decode prog_1_method_12_code 124 = .ok (.getfield 27, 3) := by decide +kernel
theorem d_TS_told_127 : decode prog_1_method_12_code 127 = .ok (.getfield 153, 3) := by decide +kernel
theorem d_TS_told_130 : decode prog_1_method_12_code 130 = .ok (.ireturn, 1) := by decide +kernel
theorem d_TS_told_131 : decode prog_1_method_12_code 131 = .ok (.aload_n 0, 1) := by decide +kernel
theorem d_TS_told_132 : decode prog_1_method_12_code 132 = .ok (.getfield 27, 3) := by decide +kernel
theorem d_TS_told_135 : decode prog_1_method_12_code 135 = .ok (.getfield 156, 3) := by decide +kernel
theorem d_TS_told_138 : decode prog_1_method_12_code 138 = .ok (.ireturn, 1) := by decide +kernel
theorem d_TS_told_139 : decode prog_1_method_12_code 139 = .ok (.aload_n 0, 1) := by decide +kernel
theorem d_TS_told_140 : decode prog_1_method_12_code 140 = .ok (.getfield 27, 3) := by decide +kernel
theorem d_TS_told_143 : decode prog_1_method_12_code 143 = .ok (.getfield 159, 3) := by decide +kernel
theorem d_TS_told_146 : decode prog_1_method_12_code 146 = .ok (.getfield 163, 3) := by decide +kernel
theorem d_TS_told_149 : decode prog_1_method_12_code 149 = .ok (.ireturn, 1) := by decide +kernel
theorem d_TS_told_150 : decode prog_1_method_12_code 150 = .ok (.aload_n 0, 1) := by decide +kernel
theorem d_TS_told_151 : decode prog_1_method_12_code 151 = .ok (.getfield 27, 3) := by decide +kernel
theorem d_TS_told_154 : decode prog_1_method_12_code 154 = .ok (.getfield 126, 3) := by decide +kernel
theorem d_TS_told_157 : decode prog_1_method_12_code 157 = .ok (.ireturn, 1) := by decide +kernel
theorem d_TS_told_158 : decode prog_1_method_12_code 158 = .ok (.aload_n 0, 1) := by decide +kernel
theorem d_TS_told_159 : decode prog_1_method_12_code 159 = .ok (.invokevirtual 166, 3) := by decide +kernel
theorem d_TS_told_162 : decode prog_1_method_12_code 162 = .ok (.ireturn, 1) := by decide +kernel
theorem d_TS_told_163 : decode prog_1_method_12_code 163 = .ok (.iconst (-1), 1) := by decide +kernel
theorem d_TS_told_164 : decode prog_1_method_12_code 164 = .ok (.ireturn, 1) := by decide +kernel
theorem d_TS_putValues_0 : decode prog_1_method_18_code 0 = .ok (.iconst 0, 1) := by decide +kernel
theorem d_TS_putValues_1 : decode prog_1_method_18_code 1 = .ok (.istore_n 1, 1) := by decide +kernel
theorem d_TS_putValues_2 : decode prog_1_method_18_code 2 = .ok (.iload_n 1, 1) := by decide +kernel
theorem d_TS_putValues_3 : decode prog_1_method_18_code 3 = .ok (.aload_n 0, 1) := by decide +kernel
theorem d_TS_putValues_4 : decode prog_1_method_18_code 4 = .ok (.getfield 31, 3) := by decide +kernel
theorem d_TS_putValues_7 : decode prog_1_method_18_code 7 = .ok (.arraylength, 1) := by decide +kernel
theorem d_TS_putValues_8 : decode prog_1_method_18_code 8 = .ok (.if_icmp .ge 57, 3) := by decide +kernel
theorem d_TS_putValues_11 : decode prog_1_method_18_code 11 = .ok (.aload_n 0, 1) := by decide +kernel
theorem d_TS_putValues_12 : decode prog_1_method_18_code 12 = .ok (.getfield 31, 3) := by decide +kernel
theorem d_TS_putValues_15 : decode prog_1_method_18_code 15 = .ok (.iload_n 1, 1) := by decide +kernel
theorem d_TS_putValues_16 : decode prog_1_method_18_code 16 = .ok (.aload_n 0, 1) := by decide +kernel
theorem d_TS_putValues_17 : decode prog_1_method_18_code 17 = .ok (.getfield 27, 3) := by decide +kernel
theorem d_TS_putValues_20 : decode prog_1_method_18_code 20 = .ok (.iload_n 1, 1) := by decide +kernel
theorem d_TS_putValues_21 : decode prog_1_method_18_code 21 = .ok (.invokevirtual 186, 3) := by decide +kernel
theorem d_TS_putValues_24 : decode prog_1_method_18_code 24 = .ok (.bastore, 1) := by decide +kernel
theorem d_TS_putValues_25 : decode prog_1_method_18_code 25 = .ok (.aload_n 0, 1) := by decide +kernel
theorem d_TS_putValues_26 : decode prog_1_method_18_code 26 = .ok (.getfield 31, 3) := by decide +kernel
theorem d_TS_putValues_29 : decode prog_1_method_18_code 29 = .ok (.iload_n 1, 1) := by decide +kernel
theorem d_TS_putValues_30 : decode prog_1_method_18_code 30 = .ok (.baload, 1) := by decide +kernel
theorem d_TS_putValues_31 : decode prog_1_method_18_code 31 = .ok (.ifCond .eq 28, 3) := by decide +kernel
theorem d_TS_putValues_34 : decode prog_1_method_18_code 34 = .ok (.aload_n 0, 1) := by decide +kernel
theorem d_TS_putValues_35 : decode prog_1_method_18_code 35 = .ok (.getfield 35, 3) := by decide +kernel
theorem d_TS_putValues_38 : decode prog_1_method_18_code 38 = .ok (.iload_n 1, 1) := by decide +kernel
theorem d_TS_putValues_39 : decode prog_1_method_18_code 39 = .ok (.aload_n 0, 1) := by decide +kernel
theorem d_TS_putValues_40 : decode prog_1_method_18_code 40 = .ok (.getfield 27, 3) := by decide +kernel
theorem d_TS_putValues_43 : decode prog_1_method_18_code 43 = .ok (.getfield 189, 3) := by decide +kernel
theorem d_TS_putValues_46 : decode prog_1_method_18_code 46 = .ok (.iload_n 1, 1) := by decide +kernel
theorem d_TS_putValues_47 : decode prog_1_method_18_code 47 = .ok (.aaload, 1) := by decide +kernel
theorem d_TS_putValues_48 : decode prog_1_method_18_code 48 = .ok (.aload_n 0, 1) := by decide +kernel
theorem d_TS_putValues_49 : decode prog_1_method_18_code 49 = .ok (.getfield 18, 3) := by decide +kernel
theorem d_TS_putValues_52 : decode prog_1_method_18_code 52 = .ok (.getfield 63, 3) := by decide +kernel
theorem d_TS_putValues_55 : decode prog_1_method_18_code 55 = .ok (.iload_n 1, 1) := by decide +kernel
theorem d_TS_putValues_56 : decode prog_1_method_18_code 56 = .ok (.iaload, 1) := by decide +kernel
theorem d_TS_putValues_57 : decode prog_1_method_18_code 57 = .ok (.laload, 1) := by decide +kernel
theorem d_TS_putValues_58 : decode prog_1_method_18_code 58 = .ok (.lastore, 1) := by decide +kernel
theorem d_TS_putValues_59 : decode prog_1_method_18_code 59 = .ok (.iinc 1 1, 3) := by decide +kernel
theorem d_TS_putValues_62 : decode prog_1_method_18_code 62 = .ok (.goto (-60), 3) := by decide +kernel
theorem d_TS_putValues_65 : decode prog_1_method_18_code 65 = .ok (.return_, 1) := by decide +kernel
theorem d_TS_clear_0 : decode prog_1_method_13_code 0 = .ok (.aload_n 0, 1) := by decide +kernel
theorem d_TS_clear_1 : decode prog_1_method_13_code 1 = .ok (.getfield 18, 3) := by decide +kernel
theorem d_TS_clear_4 : decode prog_1_method_13_code 4 = .ok (.invokevirtual 170, 3) := by decide +kernel
theorem d_TS_clear_7 : decode prog_1_method_13_code 7 = .ok (.aload_n 0, 1) := by decide +kernel
theorem d_TS_clear_8 : decode prog_1_method_13_code 8 = .ok (.getfield 27, 3) := by decide +kernel
theorem d_TS_clear_11 : decode prog_1_method_13_code 11 = .ok (.iconst 0, 1) := by decide +kernel
theorem d_TS_clear_12 : decode prog_1_method_13_code 12 = .ok (.invokevirtual 173, 3) := by decide +kernel
theorem d_TS_clear_15 : decode prog_1_method_13_code 15 = .ok (.iconst 0, 1) := by decide +kernel
theorem d_TS_clear_16 : decode prog_1_method_13_code 16 = .ok (.istore_n 1, 1) := by decide +kernel
theorem d_TS_clear_17 : decode prog_1_method_13_code 17 = .ok (.iload_n 1, 1) := by decide +kernel
theorem d_TS_clear_18 : decode prog_1_method_13_code 18 = .ok (.aload_n 0, 1) := by decide +kernel
theorem d_TS_clear_19 : decode prog_1_method_13_code 19 = .ok (.getfield 31, 3) := by decide +kernel
theorem d_TS_clear_22 : decode prog_1_method_13_code 22 = .ok (.arraylength, 1) := by decide +kernel
theorem d_TS_clear_23 : decode prog_1_method_13_code 23 = .ok (.if_icmp .ge 16, 3) := by decide +kernel
theorem d_TS_clear_26 : decode prog_1_method_13_code 26 = .ok (.aload_n 0, 1) := by decide +kernel
theorem d_TS_clear_27 : decode prog_1_method_13_code 27 = .ok (.getfield 31, 3) := by decide +kernel
theorem d_TS_clear_30 : decode prog_1_method_13_code 30 = .ok (.iload_n 1, 1) := by decide +kernel
theorem d_TS_clear_31 : decode prog_1_method_13_code 31 = .ok (.iconst 0, 1) := by decide +kernel
theorem d_TS_clear_32 : decode prog_1_method_13_code 32 = .ok (.bastore, 1) := by decide +kernel
theorem d_TS_clear_33 : decode prog_1_method_13_code 33 = .ok (.iinc 1 1, 3) := by decide +kernel
theorem d_TS_clear_36 : decode prog_1_method_13_code 36 = .ok (.goto (-19), 3) := by decide +kernel
theorem d_TS_clear_39 : decode prog_1_method_13_code 39 = .ok (.return_, 1) := by decide +kernel
theorem fl_TS_18 : zw_FL R_TS 18 6 0 := ⟨R_TS, T_TS, 4, rfl, by decide, ly_TS, Or.inl (zw_in (List.mem_of_getElem? (i := 263) (by decide +kernel)) (by decide +kernel))⟩
theorem fl_TS_27 : zw_FL R_TS 27 6 1 := ⟨R_TS, T_TS, 4, rfl, by decide, ly_TS, Or.inl (zw_in (List.mem_of_getElem? (i := 264) (by decide +kernel)) (by decide +kernel))⟩
theorem fl_TS_31 : zw_FL R_TS 31 6 2 := ⟨R_TS, T_TS, 4, rfl, by decide, ly_TS, Or.inl (zw_in (List.mem_of_getElem? (i := 265) (by decide +kernel)) (by decide +kernel))⟩
theorem fl_TS_35 : zw_FL R_TS 35 6 3 := ⟨R_TS, T_TS, 4, rfl, by decide, ly_TS, Or.inl (zw_in (List.mem_of_getElem? (i := 266) (by decide +kernel)) (by decide +kernel))⟩
theorem fl_TS_54 : zw_FL R_TS 54 5 1 := ⟨R_Plan, T_Plan, 8, rfl, by decide, ly_Plan, Or.inr ⟨"TileShares", (zw_in (List.mem_of_getElem? (i := 124) (by decide +kernel)) (by decide +kernel))⟩⟩
theorem fl_TS_63 : zw_FL R_TS 63 5 2 := ⟨R_Plan, T_Plan, 8, rfl, by decide, ly_Plan, Or.inr ⟨"TileShares", (zw_in (List.mem_of_getElem? (i := 127) (by decide +kernel)) (by decide +kernel))⟩⟩
theorem fl_TS_98 : zw_FL R_TS 98 5 6 := ⟨R_Plan, T_Plan, 8, rfl, by decide, ly_Plan, Or.inr ⟨"TileShares", (zw_in (List.mem_of_getElem? (i := 140) (by decide +kernel)) (by decide +kernel))⟩⟩
theorem fl_TS_102 : zw_FL R_TS 102 2 5 := ⟨R_Failings, T_Failings, 6, rfl, by decide, ly_Failings, Or.inr ⟨"TileShares", (zw_in (List.mem_of_getElem? (i := 102) (by decide +kernel)) (by decide +kernel))⟩⟩
theorem fl_TS_109 : zw_FL R_TS 109 5 7 := ⟨R_Plan, T_Plan, 8, rfl, by decide, ly_Plan, Or.inr ⟨"TileShares", (zw_in (List.mem_of_getElem? (i := 143) (by decide +kernel)) (by decide +kernel))⟩⟩
theorem fl_TS_126 : zw_FL R_TS 126 0 8 := ⟨R_Course, T_Course, 15, rfl, by decide, ly_Course, Or.inr ⟨"TileShares", (zw_in (List.mem_of_getElem? (i := 220) (by decide +kernel)) (by decide +kernel))⟩⟩
theorem fl_TS_141 : zw_FL R_TS 141 5 0 := ⟨R_Plan, T_Plan, 8, rfl, by decide, ly_Plan, Or.inr ⟨"TileShares", (zw_in (List.mem_of_getElem? (i := 122) (by decide +kernel)) (by decide +kernel))⟩⟩
theorem fl_TS_144 : zw_FL R_TS 144 0 11 := ⟨R_Course, T_Course, 15, rfl, by decide, ly_Course, Or.inr ⟨"TileShares", (zw_in (List.mem_of_getElem? (i := 225) (by decide +kernel)) (by decide +kernel))⟩⟩
theorem fl_TS_147 : zw_FL R_TS 147 0 12 := ⟨R_Course, T_Course, 15, rfl, by decide, ly_Course, Or.inr ⟨"TileShares", (zw_in (List.mem_of_getElem? (i := 227) (by decide +kernel)) (by decide +kernel))⟩⟩
theorem fl_TS_150 : zw_FL R_TS 150 0 13 := ⟨R_Course, T_Course, 15, rfl, by decide, ly_Course, Or.inr ⟨"TileShares", (zw_in (List.mem_of_getElem? (i := 229) (by decide +kernel)) (by decide +kernel))⟩⟩
theorem fl_TS_153 : zw_FL R_TS 153 0 14 := ⟨R_Course, T_Course, 15, rfl, by decide, ly_Course, Or.inr ⟨"TileShares", (zw_in (List.mem_of_getElem? (i := 231) (by decide +kernel)) (by decide +kernel))⟩⟩
theorem fl_TS_156 : zw_FL R_TS 156 0 10 := ⟨R_Course, T_Course, 15, rfl, by decide, ly_Course, Or.inr ⟨"TileShares", (zw_in (List.mem_of_getElem? (i := 223) (by decide +kernel)) (by decide +kernel))⟩⟩
theorem fl_TS_159 : zw_FL R_TS 159 0 2 := ⟨R_Course, T_Course, 15, rfl, by decide, ly_Course, Or.inr ⟨"TileShares", (zw_in (List.mem_of_getElem? (i := 209) (by decide +kernel)) (by decide +kernel))⟩⟩
theorem fl_TS_163 : zw_FL R_TS 163 1 2 := ⟨R_Crew, T_Crew, 3, rfl, by decide, ly_Crew, Or.inr ⟨"TileShares", (zw_in (List.mem_of_getElem? (i := 195) (by decide +kernel)) (by decide +kernel))⟩⟩
theorem fl_TS_189 : zw_FL R_TS 189 0 4 := ⟨R_Course, T_Course, 15, rfl, by decide, ly_Course, Or.inr ⟨"TileShares", (zw_in (List.mem_of_getElem? (i := 212) (by decide +kernel)) (by decide +kernel))⟩⟩
theorem mv_TS_50 : zw_MS R_TS 50 Y_TS_isWithin 3 := ⟨Or.inl (zw_in (List.mem_of_getElem? (i := 322) (by decide +kernel)) (by decide +kernel)), (zw_in (List.mem_of_getElem? (i := 323) (by decide +kernel)) (by decide +kernel)), (zw_in (List.mem_of_getElem? (i := 324) (by decide +kernel)) (by decide +kernel)), (zw_in (List.mem_of_getElem? (i := 25) (by decide +kernel)) (by decide +kernel)), by decide +kernel, by decide +kernel⟩
theorem mv_TS_166 : zw_MV R_TS 166 Y_TS_countValues R_TS 0 := ⟨Or.inl (zw_in (List.mem_of_getElem? (i := 281) (by decide +kernel)) (by decide +kernel)), (zw_in (List.mem_of_getElem? (i := 283) (by decide +kernel)) (by decide +kernel)), (zw_in (List.mem_of_getElem? (i := 0) (by decide +kernel)) (by decide +kernel)), (zw_in (List.mem_of_getElem? (i := 284) (by decide +kernel)) (by decide +kernel)), (zw_in (List.mem_of_getElem? (i := 25) (by decide +kernel)) (by decide +kernel)), by decide +kernel, by decide +kernel⟩
theorem mv_TS_170 : zw_MV R_TS 170 Y_Plan_reset R_Plan 0 := ⟨Or.inl (zw_in (List.mem_of_getElem? (i := 289) (by decide +kernel)) (by decide +kernel)), (zw_in (List.mem_of_getElem? (i := 117) (by decide +kernel)) (by decide +kernel)), (zw_in (List.mem_of_getElem? (i := 118) (by decide +kernel)) (by decide +kernel)), (zw_in (List.mem_of_getElem? (i := 119) (by decide +kernel)) (by decide +kernel)), (zw_in (List.mem_of_getElem? (i := 27) (by decide +kernel)) (by decide +kernel)), by decide +kernel, by decide +kernel⟩
theorem mv_TS_173 : zw_MV R_TS 173 Y_Course_prepare R_Course 1 := ⟨Or.inl (zw_in (List.mem_of_getElem? (i := 290) (by decide +kernel)) (by decide +kernel)), (zw_in (List.mem_of_getElem? (i := 291) (by decide +kernel)) (by decide +kernel)), (zw_in (List.mem_of_getElem? (i := 292) (by decide +kernel)) (by decide +kernel)), (zw_in (List.mem_of_getElem? (i := 293) (by decide +kernel)) (by decide +kernel)), (zw_in (List.mem_of_getElem? (i := 30) (by decide +kernel)) (by decide +kernel)), by decide +kernel, by decide +kernel⟩
theorem km_TS_177 : Cond.methodLink R_TS 177 Lib.Math.min.name ∈ zw_Tb := (zw_in (List.mem_of_getElem? (i := 52) (by decide +kernel)) (by decide +kernel))
theorem km_min_st : Cond.static Lib.Math.min.name ∈ zw_Tb := (zw_in (List.mem_of_getElem? (i := 53) (by decide +kernel)) (by decide +kernel))
theorem km_min_co : Cond.code Lib.Math.min.name Lib.Math.min.code 2 (some .int) ∈ zw_Tb := (zw_in (List.mem_of_getElem? (i := 54) (by decide +kernel)) (by decide +kernel))
theorem km_TS_183 : Cond.methodLink R_TS 183 Lib.Math.max.name ∈ zw_Tb := (zw_in (List.mem_of_getElem? (i := 55) (by decide +kernel)) (by decide +kernel))
theorem mv_TS_186 : zw_MV R_TS 186 Y_Course_isFinished R_Course 1 := ⟨Or.inl (zw_in (List.mem_of_getElem? (i := 561) (by decide +kernel)) (by decide +kernel)), (zw_in (List.mem_of_getElem? (i := 487) (by decide +kernel)) (by decide +kernel)), (zw_in (List.mem_of_getElem? (i := 488) (by decide +kernel)) (by decide +kernel)), (zw_in (List.mem_of_getElem? (i := 489) (by decide +kernel)) (by decide +kernel)), (zw_in (List.mem_of_getElem? (i := 30) (by decide +kernel)) (by decide +kernel)), by decide +kernel, by decide +kernel⟩
set_option maxHeartbeats 4000000 in
set_option maxRecDepth 100000 in
theorem c_TS_isWithin {l : Launch} {D : va_G} {cA : Nat → ClassId} {ad : Nat → Nat} {sh : zw_Sh} {n : Nat} (hn : n ≤ 16) (hs : ∀ (k : Nat) (q : zw_Sp), shX n k = some q → sh k = some q) (z : Nat) (mi : zw_I) (ml : zw_L) (x : Int32) (lo : Int32) (hi : Int32) :
    zc_M l D cA Y_TS_isWithin 0 0 0 ad sh sh z [.int x, .int lo, .int hi] mi ml (some (.int (p_within x lo hi))) mi ml z := by
  refine zc_enter (own := R_TS) (by decide) rfl (Nat.le_of_ble_eq_true rfl) ?_
  intro p e s m below meth c X hr hlocks hnm hB ls hl
  have X : zw_C D cA R_TS prog_1_method_15_code 3 p m c s := X
  have hr : meth.sig.returnType = (some FieldType.boolean) := hr
  have hx := X.1
  have hb := X.2.1
  have hl : lv_has ls 3 [(0, .int x), (1, .int lo), (2, .int hi)] := hl
  unfold p_within
  refine lv_iload_n hx hb d_TS_isWithin_0 rfl (lv_at hl 0 rfl) ?_
  refine lv_iload_n hx hb d_TS_isWithin_1 rfl (lv_at hl 1 rfl) ?_
  refine lv_icmp_lt (tgt := 14) hx hb d_TS_isWithin_2 (by decide) (fun c_2 => ?_) (fun c_2 => ?_)
  · rw [if_pos c_2]
    refine lv_iconst (v := 0) hx hb d_TS_isWithin_14 (by decide) ?_
    exact zc_zret X hr hlocks hB (by rfl) (by rfl) (by rfl) (by rfl) d_TS_isWithin_15
  · rw [if_neg c_2]
    refine lv_iload_n hx hb d_TS_isWithin_5 rfl (lv_at hl 0 rfl) ?_
    refine lv_iload_n hx hb d_TS_isWithin_6 rfl (lv_at hl 2 rfl) ?_
    refine lv_icmp_gt (tgt := 14) hx hb d_TS_isWithin_7 (by decide) (fun c_7 => ?_) (fun c_7 => ?_)
    · rw [if_pos c_7]
      refine lv_iconst (v := 0) hx hb d_TS_isWithin_14 (by decide) ?_
      exact zc_zret X hr hlocks hB (by rfl) (by rfl) (by rfl) (by rfl) d_TS_isWithin_15
    · rw [if_neg c_7]
      refine lv_iconst (v := 1) hx hb d_TS_isWithin_10 (by decide) ?_
      refine lv_goto (tgt := 15) hx hb d_TS_isWithin_11 (by decide) ?_
      exact zc_zret X hr hlocks hB (by rfl) (by rfl) (by rfl) (by rfl) d_TS_isWithin_15

set_option maxHeartbeats 4000000 in
set_option maxRecDepth 100000 in
theorem c_TS_isStep {l : Launch} {D : va_G} {cA : Nat → ClassId} {ad : Nat → Nat} {sh : zw_Sh} {n : Nat} (hn : n ≤ 16) (hs : ∀ (k : Nat) (q : zw_Sp), shX n k = some q → sh k = some q) (z : Nat) (mi : zw_I) (ml : zw_L) (x : Int32) :
    zc_M l D cA Y_TS_isStep 1 0 0 ad sh sh z [.int x] mi ml (some (.int (p_within x 0 19))) mi ml z := by
  refine zc_enter (own := R_TS) (by decide) rfl (Nat.le_of_ble_eq_true rfl) ?_
  intro p e s m below meth c X hr hlocks hnm hB ls hl
  have X : zw_C D cA R_TS prog_1_method_16_code 1 p m c s := X
  have hr : meth.sig.returnType = (some FieldType.boolean) := hr
  have hx := X.1
  have hb := X.2.1
  have hl : lv_has ls 1 [(0, .int x)] := hl
  refine lv_iload_n hx hb d_TS_isStep_0 rfl (lv_at hl 0 rfl) ?_
  refine lv_iconst (v := 0) hx hb d_TS_isStep_1 (by decide) ?_
  refine lv_bipush (v := 19) hx hb d_TS_isStep_2 (by decide) ?_
  refine zw_callSr X hB mv_TS_50 (c_TS_isWithin hn hs z mi ml x 0 19) rfl hl.1 ⟨Nat.le_of_ble_eq_true rfl, Nat.le_of_ble_eq_true rfl⟩ rfl (Nat.le_of_ble_eq_true rfl) ⟨Nat.le_of_ble_eq_true rfl, Nat.le_of_ble_eq_true rfl⟩ d_TS_isStep_4 (fun H locs hB => ?_)
  exact zc_zret X hr hlocks hB (nz_of p_within_01) (by rfl) (by rfl) (by rfl) d_TS_isStep_7

set_option maxHeartbeats 4000000 in
set_option maxRecDepth 100000 in
theorem c_TS_isShare {l : Launch} {D : va_G} {cA : Nat → ClassId} {ad : Nat → Nat} {sh : zw_Sh} {n : Nat} (hn : n ≤ 16) (hs : ∀ (k : Nat) (q : zw_Sp), shX n k = some q → sh k = some q) (z : Nat) (mi : zw_I) (ml : zw_L) (x : Int32) :
    zc_M l D cA Y_TS_isShare 1 0 0 ad sh sh z [.ref (ad 0), .int x] mi ml (some (.int (p_isShare mi x))) mi ml z := by
  refine zc_enter (own := R_TS) (by decide) rfl (Nat.le_of_ble_eq_true rfl) ?_
  intro p e s m below meth c X hr hlocks hnm hB ls hl
  have X : zw_C D cA R_TS prog_1_method_17_code 2 p m c s := X
  have hr : meth.sig.returnType = (some FieldType.boolean) := hr
  have hx := X.1
  have hb := X.2.1
  have hl : lv_has ls 2 [(0, .ref (ad 0)), (1, .int x)] := hl
  refine lv_iload_n hx hb d_TS_isShare_0 rfl (lv_at hl 1 rfl) ?_
  refine lv_iconst (v := 0) hx hb d_TS_isShare_1 (by decide) ?_
  refine lv_aload_n hx hb d_TS_isShare_2 rfl (lv_at hl 0 rfl) ?_
  refine zw_getR X hB fl_TS_18 0 (hs 0 _ rfl) rfl d_TS_isShare_3 ?_
  refine zw_getI X hB fl_TS_141 1 (hs 1 _ rfl) rfl d_TS_isShare_6 ?_
  refine lv_iconst (v := 1) hx hb d_TS_isShare_9 (by decide) ?_
  refine lv_isub hx hb d_TS_isShare_10 ?_
  refine zw_callSr X hB mv_TS_50 (c_TS_isWithin hn hs z mi ml x 0 ((mi 1 0) - 1)) rfl hl.1 ⟨Nat.le_of_ble_eq_true rfl, Nat.le_of_ble_eq_true rfl⟩ rfl (Nat.le_of_ble_eq_true rfl) ⟨Nat.le_of_ble_eq_true rfl, Nat.le_of_ble_eq_true rfl⟩ d_TS_isShare_11 (fun H locs hB => ?_)
  exact zc_zret X hr hlocks hB (nz_of p_within_01) (by rfl) (by rfl) (by rfl) d_TS_isShare_14

set_option maxHeartbeats 4000000 in
set_option maxRecDepth 100000 in
theorem c_TS_nearest {l : Launch} {D : va_G} {cA : Nat → ClassId} {ad : Nat → Nat} {sh : zw_Sh} {n : Nat} (hn : n ≤ 16) (hs : ∀ (k : Nat) (q : zw_Sp), shX n k = some q → sh k = some q) (z : Nat) (mi : zw_I) (ml : zw_L) (x : Int32) (lo : Int32) (hi : Int32) :
    zc_M l D cA Y_TS_nearest 1 0 0 ad sh sh z [.int x, .int lo, .int hi] mi ml (some (.int (p_nearest x lo hi))) mi ml z := by
  refine zc_enter (own := R_TS) (by decide) rfl (Nat.le_of_ble_eq_true rfl) ?_
  intro p e s m below meth c X hr hlocks hnm hB ls hl
  have X : zw_C D cA R_TS prog_1_method_14_code 3 p m c s := X
  have hr : meth.sig.returnType = (some FieldType.int) := hr
  have hx := X.1
  have hb := X.2.1
  have hl : lv_has ls 3 [(0, .int x), (1, .int lo), (2, .int hi)] := hl
  refine lv_iload_n hx hb d_TS_nearest_0 rfl (lv_at hl 1 rfl) ?_
  refine lv_iload_n hx hb d_TS_nearest_1 rfl (lv_at hl 2 rfl) ?_
  refine lv_iload_n hx hb d_TS_nearest_2 rfl (lv_at hl 0 rfl) ?_
  refine va_mmin hx hb (X.2.2.1.trans hl.1.symm) X.2.2.2.1 (X.2.2.2.2.ts _ km_TS_177) (X.2.2.2.2.ts _ km_min_st) (X.2.2.2.2.ts _ km_math_in) (X.2.2.2.2.ts _ km_min_co) (Nat.le_of_ble_eq_true rfl) (Nat.le_of_ble_eq_true rfl) (Nat.le_of_ble_eq_true rfl) (Nat.le_of_ble_eq_true rfl) d_TS_nearest_3 ?_
  refine va_mmax hx hb (X.2.2.1.trans hl.1.symm) X.2.2.2.1 (X.2.2.2.2.ts _ km_TS_183) (X.2.2.2.2.ts _ km_max_st) (X.2.2.2.2.ts _ km_math_in) (X.2.2.2.2.ts _ km_max_co) (Nat.le_of_ble_eq_true rfl) (Nat.le_of_ble_eq_true rfl) (Nat.le_of_ble_eq_true rfl) (Nat.le_of_ble_eq_true rfl) d_TS_nearest_6 ?_
  exact zc_iret X hr hlocks hB (by rfl) (by rfl) (by rfl) d_TS_nearest_9

set_option maxHeartbeats 4000000 in
set_option maxRecDepth 100000 in
theorem c_TS_countValues {l : Launch} {D : va_G} {cA : Nat → ClassId} {ad : Nat → Nat} {sh : zw_Sh} {n : Nat} (hn : n ≤ 16) (hs : ∀ (k : Nat) (q : zw_Sp), shX n k = some q → sh k = some q) (z : Nat) (mi : zw_I) (ml : zw_L) :
    zc_M l D cA Y_TS_countValues 0 0 0 ad sh sh z [.ref (ad 0)] mi ml (some (.int (p_count n mi (n + 1) 0 0))) mi ml z := by
  refine zc_enter (own := R_TS) (by decide) rfl (Nat.le_of_ble_eq_true rfl) ?_
  intro p e s m below meth c X hr hlocks hnm hB ls hl
  have X : zw_C D cA R_TS prog_1_method_19_code 3 p m c s := X
  have hr : meth.sig.returnType = (some FieldType.int) := hr
  have hx := X.1
  have hb := X.2.1
  have hl : lv_has ls 3 [(0, .ref (ad 0))] := hl
  have loop : ∀ (f i : Nat) (a : Int32)  (H : Heap) (locs : List Loc) (ls : Array Slot), i + f = n + 1 → i ≤ n → zw_B D cA ad sh (zw_A ad sh z) s.heap mi ml z H locs → lv_has ls 3 [(2, .int (nI i)), (1, .int a), (0, .ref (ad 0))] →
      zc_W l D cA ad sh sh z [.ref (ad 0)] 0 0 0 (some (.int (p_count n mi f a (nI i)))) mi ml z p e s m below meth c H locs 0 0 (F0 m 4 ls []) := by
    intro f
    induction f with
    | zero =>
      intro i a  H locs ls hi h2 hB hl
      omega
    | succ f ih =>
      intro i a  H locs ls hi h2 hB hl
      rw [p_count]
      refine lv_iload_n hx hb d_TS_countValues_4 rfl (lv_at hl 0 rfl) ?_
      refine lv_aload_n hx hb d_TS_countValues_5 rfl (lv_at hl 2 rfl) ?_
      refine zw_getR X hB fl_TS_31 0 (hs 0 _ rfl) rfl d_TS_countValues_6 ?_
      refine zw_alen X hB 20 (by decide) (hs 20 _ rfl) d_TS_countValues_9 ?_
      refine lv_icmp_ge (tgt := 31) hx hb d_TS_countValues_10 (by decide) (fun c_10 => ?_) (fun c_10 => ?_)
      · rw [if_pos c_10]
        refine lv_iload_n hx hb d_TS_countValues_31 rfl (lv_at hl 1 rfl) ?_
        exact zc_iret X hr hlocks hB (by rfl) (by rfl) (by rfl) d_TS_countValues_32
      · rw [if_neg c_10]
        have hlt : i < n := zn_lt (by omega) c_10
        have hin : vp_in (nI i) n := vp_in_nI hlt (by omega)
        refine lv_aload_n hx hb d_TS_countValues_13 rfl (lv_at hl 2 rfl) ?_
        refine zw_getR X hB fl_TS_31 0 (hs 0 _ rfl) rfl d_TS_countValues_14 ?_
        refine lv_iload_n hx hb d_TS_countValues_17 rfl (lv_at hl 0 rfl) ?_
        refine zw_zald X hB 20 (hs 20 _ rfl) hin d_TS_countValues_18 ?_
        refine lv_if_eq (tgt := 25) hx hb d_TS_countValues_19 (by decide) (fun c_19 => ?_) (fun c_19 => ?_)
        · rw [if_pos c_19]
          refine lv_iinc (v := nI (i + 1)) (lv' := [(2, .int (nI (i + 1))), (1, .int a), (0, .ref (ad 0))]) hx hb d_TS_countValues_25 hl (k := 0) rfl (nI_1 i) (by decide) rfl (fun ls hl => ?_)
          refine lv_goto (tgt := 4) hx hb d_TS_countValues_28 (by decide) ?_
          rw [nI_1 i]
          exact ih (i + 1) _  H locs ls (by omega) (by omega) hB (lv_sub hl [0, 1, 2] rfl)
        · rw [if_neg c_19]
          refine lv_iinc (v := a + 1) (lv' := [(1, .int (a + 1)), (2, .int (nI i)), (0, .ref (ad 0))]) hx hb d_TS_countValues_22 hl (k := 1) rfl rfl (by decide) rfl (fun ls hl => ?_)
          refine lv_iinc (v := nI (i + 1)) (lv' := [(2, .int (nI (i + 1))), (1, .int (a + 1)), (0, .ref (ad 0))]) hx hb d_TS_countValues_25 hl (k := 1) rfl (nI_1 i) (by decide) rfl (fun ls hl => ?_)
          refine lv_goto (tgt := 4) hx hb d_TS_countValues_28 (by decide) ?_
          rw [nI_1 i]
          exact ih (i + 1) _  H locs ls (by omega) (by omega) hB (lv_sub hl [0, 1, 2] rfl)
  refine lv_iconst (v := 0) hx hb d_TS_countValues_0 (by decide) ?_
  refine lv_istore_n (lv' := [(1, .int 0), (0, .ref (ad 0))]) hx hb d_TS_countValues_1 rfl hl (by decide) rfl (fun ls hl => ?_)
  refine lv_iconst (v := 0) hx hb d_TS_countValues_2 (by decide) ?_
  refine lv_istore_n (lv' := [(2, .int 0), (1, .int 0), (0, .ref (ad 0))]) hx hb d_TS_countValues_3 rfl hl (by decide) rfl (fun ls hl => ?_)
  exact loop (n + 1) 0 0  _ _ ls (by omega) (by omega) hB (lv_sub hl [0, 1, 2] rfl)

set_option maxHeartbeats 4000000 in
set_option maxRecDepth 100000 in
theorem c_TS_told {l : Launch} {D : va_G} {cA : Nat → ClassId} {ad : Nat → Nat} {sh : zw_Sh} {n : Nat} (hn : n ≤ 16) (hs : ∀ (k : Nat) (q : zw_Sp), shX n k = some q → sh k = some q) (z : Nat) (mi : zw_I) (ml : zw_L) (x : Int32) :
    zc_M l D cA Y_TS_told 1 0 0 ad sh sh z [.ref (ad 0), .int x] mi ml (some (.int (p_told n mi x))) mi ml z := by
  refine zc_enter (own := R_TS) (by decide) rfl (Nat.le_of_ble_eq_true rfl) ?_
  intro p e s m below meth c X hr hlocks hnm hB ls hl
  have X : zw_C D cA R_TS prog_1_method_12_code 2 p m c s := X
  have hr : meth.sig.returnType = (some FieldType.int) := hr
  have hx := X.1
  have hb := X.2.1
  have hl : lv_has ls 2 [(0, .ref (ad 0)), (1, .int x)] := hl
  unfold p_told
  refine lv_iload_n hx hb d_TS_told_0 rfl (lv_at hl 1 rfl) ?_
  by_cases hk_0 : x = 0
  · rw [if_pos hk_0]
    subst hk_0
    refine lv_tableIn (off := 63) (tgt := 64) hx hb d_TS_told_1 (by decide) (by decide) (by decide) (by decide) ?_
    refine lv_aload_n hx hb d_TS_told_64 rfl (lv_at hl 0 rfl) ?_
    refine zw_getR X hB fl_TS_18 0 (hs 0 _ rfl) rfl d_TS_told_65 ?_
    refine zw_getI X hB fl_TS_141 1 (hs 1 _ rfl) rfl d_TS_told_68 ?_
    exact zc_iret X hr hlocks hB (by rfl) (by rfl) (by rfl) d_TS_told_71
  rw [if_neg hk_0]
  by_cases hk_1 : x = 1
  · rw [if_pos hk_1]
    subst hk_1
    refine lv_tableIn (off := 71) (tgt := 72) hx hb d_TS_told_1 (by decide) (by decide) (by decide) (by decide) ?_
    refine lv_aload_n hx hb d_TS_told_72 rfl (lv_at hl 0 rfl) ?_
    refine zw_getR X hB fl_TS_18 0 (hs 0 _ rfl) rfl d_TS_told_73 ?_
    refine zw_getI X hB fl_TS_54 1 (hs 1 _ rfl) rfl d_TS_told_76 ?_
    exact zc_iret X hr hlocks hB (by rfl) (by rfl) (by rfl) d_TS_told_79
  rw [if_neg hk_1]
  by_cases hk_2 : x = 2
  · rw [if_pos hk_2]
    subst hk_2
    refine lv_tableIn (off := 79) (tgt := 80) hx hb d_TS_told_1 (by decide) (by decide) (by decide) (by decide) ?_
    refine lv_aload_n hx hb d_TS_told_80 rfl (lv_at hl 0 rfl) ?_
    refine zw_getR X hB fl_TS_18 0 (hs 0 _ rfl) rfl d_TS_told_81 ?_
    refine zw_getR X hB fl_TS_98 1 (hs 1 _ rfl) rfl d_TS_told_84 ?_
    refine zw_getI X hB fl_TS_102 3 (hs 3 _ rfl) rfl d_TS_told_87 ?_
    exact zc_iret X hr hlocks hB (by rfl) (by rfl) (by rfl) d_TS_told_90
  rw [if_neg hk_2]
  by_cases hk_3 : x = 3
  · rw [if_pos hk_3]
    subst hk_3
    refine lv_tableIn (off := 90) (tgt := 91) hx hb d_TS_told_1 (by decide) (by decide) (by decide) (by decide) ?_
    refine lv_aload_n hx hb d_TS_told_91 rfl (lv_at hl 0 rfl) ?_
    refine zw_getR X hB fl_TS_18 0 (hs 0 _ rfl) rfl d_TS_told_92 ?_
    refine zw_getI X hB fl_TS_109 1 (hs 1 _ rfl) rfl d_TS_told_95 ?_
    exact zc_iret X hr hlocks hB (by rfl) (by rfl) (by rfl) d_TS_told_98
  rw [if_neg hk_3]
  by_cases hk_4 : x = 4
  · rw [if_pos hk_4]
    subst hk_4
    refine lv_tableIn (off := 98) (tgt := 99) hx hb d_TS_told_1 (by decide) (by decide) (by decide) (by decide) ?_
    refine lv_aload_n hx hb d_TS_told_99 rfl (lv_at hl 0 rfl) ?_
    refine zw_getR X hB fl_TS_27 0 (hs 0 _ rfl) rfl d_TS_told_100 ?_
    refine zw_getI X hB fl_TS_144 5 (hs 5 _ rfl) rfl d_TS_told_103 ?_
    exact zc_iret X hr hlocks hB (by rfl) (by rfl) (by rfl) d_TS_told_106
  rw [if_neg hk_4]
  by_cases hk_5 : x = 5
  · rw [if_pos hk_5]
    subst hk_5
    refine lv_tableIn (off := 106) (tgt := 107) hx hb d_TS_told_1 (by decide) (by decide) (by decide) (by decide) ?_
    refine lv_aload_n hx hb d_TS_told_107 rfl (lv_at hl 0 rfl) ?_
    refine zw_getR X hB fl_TS_27 0 (hs 0 _ rfl) rfl d_TS_told_108 ?_
    refine zw_getI X hB fl_TS_147 5 (hs 5 _ rfl) rfl d_TS_told_111 ?_
    exact zc_iret X hr hlocks hB (by rfl) (by rfl) (by rfl) d_TS_told_114
  rw [if_neg hk_5]
  by_cases hk_6 : x = 6
  · rw [if_pos hk_6]
    subst hk_6
    refine lv_tableIn (off := 114) (tgt := 115) hx hb d_TS_told_1 (by decide) (by decide) (by decide) (by decide) ?_
    refine lv_aload_n hx hb d_TS_told_115 rfl (lv_at hl 0 rfl) ?_
    refine zw_getR X hB fl_TS_27 0 (hs 0 _ rfl) rfl d_TS_told_116 ?_
    refine zw_getI X hB fl_TS_150 5 (hs 5 _ rfl) rfl d_TS_told_119 ?_
    exact zc_iret X hr hlocks hB (by rfl) (by rfl) (by rfl) d_TS_told_122
  rw [if_neg hk_6]
  by_cases hk_7 : x = 7
  · rw [if_pos hk_7]
    subst hk_7
    refine lv_tableIn (off := 122) (tgt := 123) hx hb d_TS_told_1 (by decide) (by decide) (by decide) (by decide) ?_
    refine lv_aload_n hx hb d_TS_told_123 rfl (lv_at hl 0 rfl) ?_
    refine zw_getR X hB fl_TS_27 0 (hs 0 _ rfl) rfl d_TS_told_124 ?_
    refine zw_getI X hB fl_TS_153 5 (hs 5 _ rfl) rfl d_TS_told_127 ?_
    exact zc_iret X hr hlocks hB (by rfl) (by rfl) (by rfl) d_TS_told_130
  rw [if_neg hk_7]
  by_cases hk_8 : x = 8
  · rw [if_pos hk_8]
    subst hk_8
    refine lv_tableIn (off := 130) (tgt := 131) hx hb d_TS_told_1 (by decide) (by decide) (by decide) (by decide) ?_
    refine lv_aload_n hx hb d_TS_told_131 rfl (lv_at hl 0 rfl) ?_
    refine zw_getR X hB fl_TS_27 0 (hs 0 _ rfl) rfl d_TS_told_132 ?_
    refine zw_getI X hB fl_TS_156 5 (hs 5 _ rfl) rfl d_TS_told_135 ?_
    exact zc_iret X hr hlocks hB (by rfl) (by rfl) (by rfl) d_TS_told_138
  rw [if_neg hk_8]
  by_cases hk_9 : x = 9
  · rw [if_pos hk_9]
    subst hk_9
    refine lv_tableIn (off := 138) (tgt := 139) hx hb d_TS_told_1 (by decide) (by decide) (by decide) (by decide) ?_
    refine lv_aload_n hx hb d_TS_told_139 rfl (lv_at hl 0 rfl) ?_
    refine zw_getR X hB fl_TS_27 0 (hs 0 _ rfl) rfl d_TS_told_140 ?_
    refine zw_getR X hB fl_TS_159 5 (hs 5 _ rfl) rfl d_TS_told_143 ?_
    refine zw_getI X hB fl_TS_163 6 (hs 6 _ rfl) rfl d_TS_told_146 ?_
    exact zc_iret X hr hlocks hB (by rfl) (by rfl) (by rfl) d_TS_told_149
  rw [if_neg hk_9]
  by_cases hk_10 : x = 10
  · rw [if_pos hk_10]
    subst hk_10
    refine lv_tableIn (off := 149) (tgt := 150) hx hb d_TS_told_1 (by decide) (by decide) (by decide) (by decide) ?_
    refine lv_aload_n hx hb d_TS_told_150 rfl (lv_at hl 0 rfl) ?_
    refine zw_getR X hB fl_TS_27 0 (hs 0 _ rfl) rfl d_TS_told_151 ?_
    refine zw_getI X hB fl_TS_126 5 (hs 5 _ rfl) rfl d_TS_told_154 ?_
    exact zc_iret X hr hlocks hB (by rfl) (by rfl) (by rfl) d_TS_told_157
  rw [if_neg hk_10]
  by_cases hk_11 : x = 11
  · rw [if_pos hk_11]
    subst hk_11
    refine lv_tableIn (off := 157) (tgt := 158) hx hb d_TS_told_1 (by decide) (by decide) (by decide) (by decide) ?_
    refine lv_aload_n hx hb d_TS_told_158 rfl (lv_at hl 0 rfl) ?_
    refine zw_callVr X hB mv_TS_166 0 (hs 0 _ rfl) rfl (c_TS_countValues hn hs z mi ml) rfl hl.1 ⟨Nat.le_of_ble_eq_true rfl, Nat.le_of_ble_eq_true rfl⟩ rfl (Nat.le_of_ble_eq_true rfl) ⟨Nat.le_of_ble_eq_true rfl, Nat.le_of_ble_eq_true rfl⟩ d_TS_told_159 (fun H locs hB => ?_)
    exact zc_iret X hr hlocks hB (by rfl) (by rfl) (by rfl) d_TS_told_162
  rw [if_neg hk_11]
  refine lv_tableOut (tgt := 163) hx hb d_TS_told_1 (zt_out hk_0 hk_1 hk_2 hk_3 hk_4 hk_5 hk_6 hk_7 hk_8 hk_9 hk_10 hk_11) (by decide) ?_
  refine lv_iconst (v := (-1)) hx hb d_TS_told_163 (by decide) ?_
  exact zc_iret X hr hlocks hB (by rfl) (by rfl) (by rfl) d_TS_told_164

set_option maxHeartbeats 4000000 in
set_option maxRecDepth 100000 in
theorem c_TS_putValues {l : Launch} {D : va_G} {cA : Nat → ClassId} {ad : Nat → Nat} {sh : zw_Sh} {n : Nat} (hn : n ≤ 16) (hs : ∀ (k : Nat) (q : zw_Sp), shX n k = some q → sh k = some q) (z : Nat) (mi : zw_I) (ml : zw_L) (h7 : ∀ i : Nat, i < n → vp_in (mi 7 i) 21) :
    zc_M l D cA Y_TS_putValues 1 0 0 ad sh sh z [.ref (ad 0)] mi ml none ((p_put n (n + 1) 0 mi ml).1) ((p_put n (n + 1) 0 mi ml).2) z := by
  refine zc_enter (own := R_TS) (by decide) rfl (Nat.le_of_ble_eq_true rfl) ?_
  intro p e s m below meth c X hr hlocks hnm hB ls hl
  have X : zw_C D cA R_TS prog_1_method_18_code 2 p m c s := X
  have hr : meth.sig.returnType = none := hr
  have hx := X.1
  have hb := X.2.1
  have hl : lv_has ls 2 [(0, .ref (ad 0))] := hl
  have loop : ∀ (f i : Nat) (mi : zw_I) (ml : zw_L) (H : Heap) (locs : List Loc) (ls : Array Slot), i + f = n + 1 → i ≤ n → (∀ i : Nat, i < n → vp_in (mi 7 i) 21) → zw_B D cA ad sh (zw_A ad sh z) s.heap mi ml z H locs → lv_has ls 2 [(1, .int (nI i)), (0, .ref (ad 0))] →
      zc_W l D cA ad sh sh z [.ref (ad 0)] 1 0 0 none ((p_put n f (nI i) mi ml).1) ((p_put n f (nI i) mi ml).2) z p e s m below meth c H locs 0 0 (F0 m 2 ls []) := by
    intro f
    induction f with
    | zero =>
      intro i  mi ml H locs ls hi h2 h7 hB hl
      omega
    | succ f ih =>
      intro i  mi ml H locs ls hi h2 h7 hB hl
      rw [p_put]
      refine lv_iload_n hx hb d_TS_putValues_2 rfl (lv_at hl 0 rfl) ?_
      refine lv_aload_n hx hb d_TS_putValues_3 rfl (lv_at hl 1 rfl) ?_
      refine zw_getR X hB fl_TS_31 0 (hs 0 _ rfl) rfl d_TS_putValues_4 ?_
      refine zw_alen X hB 20 (by decide) (hs 20 _ rfl) d_TS_putValues_7 ?_
      refine lv_icmp_ge (tgt := 65) hx hb d_TS_putValues_8 (by decide) (fun c_8 => ?_) (fun c_8 => ?_)
      · rw [if_pos c_8]
        exact zc_vret X hr hlocks hB (by rfl) (by rfl) (by rfl) d_TS_putValues_65
      · rw [if_neg c_8]
        have hlt : i < n := zn_lt (by omega) c_8
        have hin : vp_in (nI i) n := vp_in_nI hlt (by omega)
        refine lv_aload_n hx hb d_TS_putValues_11 rfl (lv_at hl 1 rfl) ?_
        refine zw_getR X hB fl_TS_31 0 (hs 0 _ rfl) rfl d_TS_putValues_12 ?_
        refine lv_iload_n hx hb d_TS_putValues_15 rfl (lv_at hl 0 rfl) ?_
        refine lv_aload_n hx hb d_TS_putValues_16 rfl (lv_at hl 1 rfl) ?_
        refine zw_getR X hB fl_TS_27 0 (hs 0 _ rfl) rfl d_TS_putValues_17 ?_
        refine lv_iload_n hx hb d_TS_putValues_20 rfl (lv_at hl 0 rfl) ?_
        refine zw_callVr X hB mv_TS_186 5 (hs 5 _ rfl) rfl (c_Course_isFinished hn hs z mi ml (nI i) hin) rfl hl.1 ⟨Nat.le_of_ble_eq_true rfl, Nat.le_of_ble_eq_true rfl⟩ rfl (Nat.le_of_ble_eq_true rfl) ⟨Nat.le_of_ble_eq_true rfl, Nat.le_of_ble_eq_true rfl⟩ d_TS_putValues_21 (fun H locs hB => ?_)
        refine zw_zast X hB 20 (hs 20 _ rfl) (nz_of p_isFin_01) hin d_TS_putValues_24 (fun H locs hB => ?_)
        refine lv_aload_n hx hb d_TS_putValues_25 rfl (lv_at hl 1 rfl) ?_
        refine zw_getR X hB fl_TS_31 0 (hs 0 _ rfl) rfl d_TS_putValues_26 ?_
        refine lv_iload_n hx hb d_TS_putValues_29 rfl (lv_at hl 0 rfl) ?_
        refine zw_zald X hB 20 (hs 20 _ rfl) hin d_TS_putValues_30 ?_
        refine lv_if_eq (tgt := 59) hx hb d_TS_putValues_31 (by decide) (fun c_31 => ?_) (fun c_31 => ?_)
        · rw [if_pos c_31]
          refine lv_iinc (v := nI (i + 1)) (lv' := [(1, .int (nI (i + 1))), (0, .ref (ad 0))]) hx hb d_TS_putValues_59 hl (k := 0) rfl (nI_1 i) (by decide) rfl (fun ls hl => ?_)
          refine lv_goto (tgt := 2) hx hb d_TS_putValues_62 (by decide) ?_
          rw [nI_1 i]
          exact ih (i + 1)  _ _ H locs ls (by omega) (by omega) (fun j hj => by rw [zw_up_ne1 _ _ _ (by decide)]; exact h7 j hj) hB (lv_sub hl [0, 1] rfl)
        · rw [if_neg c_31]
          refine lv_aload_n hx hb d_TS_putValues_34 rfl (lv_at hl 1 rfl) ?_
          refine zw_getR X hB fl_TS_35 0 (hs 0 _ rfl) rfl d_TS_putValues_35 ?_
          refine lv_iload_n hx hb d_TS_putValues_38 rfl (lv_at hl 0 rfl) ?_
          refine lv_aload_n hx hb d_TS_putValues_39 rfl (lv_at hl 1 rfl) ?_
          refine zw_getR X hB fl_TS_27 0 (hs 0 _ rfl) rfl d_TS_putValues_40 ?_
          refine zw_getR X hB fl_TS_189 5 (hs 5 _ rfl) rfl d_TS_putValues_43 ?_
          refine lv_iload_n hx hb d_TS_putValues_46 rfl (lv_at hl 0 rfl) ?_
          refine zw_aald X hB 24 (Or.inr rfl) (hs 24 _ rfl) hin d_TS_putValues_47 ?_
          refine lv_aload_n hx hb d_TS_putValues_48 rfl (lv_at hl 1 rfl) ?_
          refine zw_getR X hB fl_TS_18 0 (hs 0 _ rfl) rfl d_TS_putValues_49 ?_
          refine zw_getR X hB fl_TS_63 1 (hs 1 _ rfl) rfl d_TS_putValues_52 ?_
          refine lv_iload_n hx hb d_TS_putValues_55 rfl (lv_at hl 0 rfl) ?_
          refine zw_iald X hB 7 (hs 7 _ rfl) hin d_TS_putValues_56 ?_
          refine zw_lald X hB (112 + (nI i).toNatClampNeg) (hs _ _ (shr3 hn (vlt hin))) (by rw [zw_up_ne1 _ _ _ (by decide)]; exact h7 _ (vlt hin)) d_TS_putValues_57 ?_
          refine zw_last X hB 21 (hs 21 _ rfl) hin d_TS_putValues_58 (fun H locs hB => ?_)
          refine lv_iinc (v := nI (i + 1)) (lv' := [(1, .int (nI (i + 1))), (0, .ref (ad 0))]) hx hb d_TS_putValues_59 hl (k := 0) rfl (nI_1 i) (by decide) rfl (fun ls hl => ?_)
          refine lv_goto (tgt := 2) hx hb d_TS_putValues_62 (by decide) ?_
          rw [nI_1 i]
          exact ih (i + 1)  _ _ H locs ls (by omega) (by omega) (fun j hj => by rw [zw_up_ne1 _ _ _ (by decide)]; exact h7 j hj) hB (lv_sub hl [0, 1] rfl)
  refine lv_iconst (v := 0) hx hb d_TS_putValues_0 (by decide) ?_
  refine lv_istore_n (lv' := [(1, .int 0), (0, .ref (ad 0))]) hx hb d_TS_putValues_1 rfl hl (by decide) rfl (fun ls hl => ?_)
  exact loop (n + 1) 0 _ _ _ _ ls (by omega) (by omega) h7 hB (lv_sub hl [0, 1] rfl)

set_option maxHeartbeats 4000000 in
set_option maxRecDepth 100000 in
theorem c_TS_clear {l : Launch} {D : va_G} {cA : Nat → ClassId} {ad : Nat → Nat} {sh : zw_Sh} {n : Nat} (hn : n ≤ 16) (hs : ∀ (k : Nat) (q : zw_Sp), shX n k = some q → sh k = some q) (z : Nat) (mi : zw_I) (ml : zw_L) (e0 : mi 1 0 = nI n) (e1 : (p_reset n (n + 1) 0 mi ml).1 1 0 = nI n) (e2 : (p_reset n (n + 1) 0 mi ml).1 3 5 = 0) :
    zc_M l D cA Y_TS_clear 2 0 0 ad sh sh z [.ref (ad 0)] mi ml none ((p_clear n mi ml).1) ((p_clear n mi ml).2) z := by
  refine zc_enter (own := R_TS) (by decide) rfl (Nat.le_of_ble_eq_true rfl) ?_
  intro p e s m below meth c X hr hlocks hnm hB ls hl
  have X : zw_C D cA R_TS prog_1_method_13_code 2 p m c s := X
  have hr : meth.sig.returnType = none := hr
  have hx := X.1
  have hb := X.2.1
  have hl : lv_has ls 2 [(0, .ref (ad 0))] := hl
  have loop : ∀ (f i : Nat) (mi : zw_I) (ml : zw_L) (H : Heap) (locs : List Loc) (ls : Array Slot), i + f = n + 1 → i ≤ n → zw_B D cA ad sh (zw_A ad sh z) s.heap mi ml z H locs → lv_has ls 2 [(1, .int (nI i)), (0, .ref (ad 0))] →
      zc_W l D cA ad sh sh z [.ref (ad 0)] 2 0 0 none (p_unset n f (nI i) mi) ml z p e s m below meth c H locs 0 0 (F0 m 17 ls []) := by
    intro f
    induction f with
    | zero =>
      intro i  mi ml H locs ls hi h2 hB hl
      omega
    | succ f ih =>
      intro i  mi ml H locs ls hi h2 hB hl
      rw [p_unset]
      refine lv_iload_n hx hb d_TS_clear_17 rfl (lv_at hl 0 rfl) ?_
      refine lv_aload_n hx hb d_TS_clear_18 rfl (lv_at hl 1 rfl) ?_
      refine zw_getR X hB fl_TS_31 0 (hs 0 _ rfl) rfl d_TS_clear_19 ?_
      refine zw_alen X hB 20 (by decide) (hs 20 _ rfl) d_TS_clear_22 ?_
      refine lv_icmp_ge (tgt := 39) hx hb d_TS_clear_23 (by decide) (fun c_23 => ?_) (fun c_23 => ?_)
      · rw [if_pos c_23]
        exact zc_vret X hr hlocks hB (by rfl) (by rfl) (by rfl) d_TS_clear_39
      · rw [if_neg c_23]
        have hlt : i < n := zn_lt (by omega) c_23
        have hin : vp_in (nI i) n := vp_in_nI hlt (by omega)
        refine lv_aload_n hx hb d_TS_clear_26 rfl (lv_at hl 1 rfl) ?_
        refine zw_getR X hB fl_TS_31 0 (hs 0 _ rfl) rfl d_TS_clear_27 ?_
        refine lv_iload_n hx hb d_TS_clear_30 rfl (lv_at hl 0 rfl) ?_
        refine lv_iconst (v := 0) hx hb d_TS_clear_31 (by decide) ?_
        refine zw_zast X hB 20 (hs 20 _ rfl) (by rfl) hin d_TS_clear_32 (fun H locs hB => ?_)
        obtain ⟨mi_1, emi_1⟩ : ∃ y, y = zw_up mi 20 (nI i).toNatClampNeg 0 := ⟨_, rfl⟩
        rw [← emi_1] at hB
        refine lv_iinc (v := nI (i + 1)) (lv' := [(1, .int (nI (i + 1))), (0, .ref (ad 0))]) hx hb d_TS_clear_33 hl (k := 0) rfl (nI_1 i) (by decide) rfl (fun ls hl => ?_)
        refine lv_goto (tgt := 17) hx hb d_TS_clear_36 (by decide) ?_
        subst emi_1
        rw [nI_1 i]
        exact ih (i + 1)  _ _ H locs ls (by omega) (by omega) hB (lv_sub hl [0, 1] rfl)
  refine lv_aload_n hx hb d_TS_clear_0 rfl (lv_at hl 0 rfl) ?_
  refine zw_getR X hB fl_TS_18 0 (hs 0 _ rfl) rfl d_TS_clear_1 ?_
  refine zw_callVv X hB mv_TS_170 1 (hs 1 _ rfl) rfl (c_Plan_reset hn hs z mi ml e0) rfl hl.1 ⟨Nat.le_of_ble_eq_true rfl, Nat.le_of_ble_eq_true rfl⟩ rfl (Nat.le_of_ble_eq_true rfl) ⟨Nat.le_of_ble_eq_true rfl, Nat.le_of_ble_eq_true rfl⟩ d_TS_clear_4 (fun H locs hB => ?_)
  refine lv_aload_n hx hb d_TS_clear_7 rfl (lv_at hl 0 rfl) ?_
  refine zw_getR X hB fl_TS_27 0 (hs 0 _ rfl) rfl d_TS_clear_8 ?_
  refine lv_iconst (v := 0) hx hb d_TS_clear_11 (by decide) ?_
  refine zw_callVv X hB mv_TS_173 5 (hs 5 _ rfl) rfl (c_Course_prepare hn hs z ((p_reset n (n + 1) 0 mi ml).1) ((p_reset n (n + 1) 0 mi ml).2) 0 0 (by omega) rfl e1 0 (by omega) e2) rfl hl.1 ⟨Nat.le_of_ble_eq_true rfl, Nat.le_of_ble_eq_true rfl⟩ rfl (Nat.le_of_ble_eq_true rfl) ⟨Nat.le_of_ble_eq_true rfl, Nat.le_of_ble_eq_true rfl⟩ d_TS_clear_12 (fun H locs hB => ?_)
  refine lv_iconst (v := 0) hx hb d_TS_clear_15 (by decide) ?_
  refine lv_istore_n (lv' := [(1, .int 0), (0, .ref (ad 0))]) hx hb d_TS_clear_16 rfl hl (by decide) rfl (fun ls hl => ?_)
  exact loop (n + 1) 0 _ _ _ _ ls (by omega) (by omega) hB (lv_sub hl [0, 1] rfl)
