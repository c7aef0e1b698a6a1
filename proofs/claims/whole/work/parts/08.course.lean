abbrev Y_Plan_reset : zc_Y := (⟨R_Plan, "reset", "()V"⟩, prog_7_method_2_code, 2, none)
abbrev Y_Course_isFinished : zc_Y := (⟨R_Course, "isFinished", "(I)Z"⟩, prog_2_method_4_code, 2, (some FieldType.boolean))
abbrev Y_Course_canTake : zc_Y := (⟨R_Course, "canTake", "()Z"⟩, prog_2_method_7_code, 2, (some FieldType.boolean))
abbrev Y_Course_shareToWaitFor : zc_Y := (⟨R_Course, "shareToWaitFor", "(I)I"⟩, prog_2_method_8_code, 2, (some FieldType.int))
abbrev Y_Course_isStuck : zc_Y := (⟨R_Course, "isStuck", "()Z"⟩, prog_2_method_6_code, 3, (some FieldType.boolean))
abbrev Y_Course_endByState : zc_Y := (⟨R_Course, "endByState", "()I"⟩, prog_2_method_5_code, 1, (some FieldType.int))
abbrev Y_Course_take : zc_Y := (⟨R_Course, "take", "(I)Z"⟩, prog_2_method_10_code, 3, (some FieldType.boolean))
abbrev Y_Course_fail : zc_Y := (⟨R_Course, "fail", "(II)V"⟩, prog_2_method_11_code, 3, none)
abbrev Y_Course_doStep : zc_Y := (⟨R_Course, "doStep", "(II)V"⟩, prog_2_method_12_code, 6, none)
theorem d_Plan_reset_0 : decode prog_7_method_2_code 0 = .ok (.iconst 0, 1) := by decide +kernel
theorem d_Plan_reset_1 : decode prog_7_method_2_code 1 = .ok (.istore_n 1, 1) := by decide +kernel
theorem d_Plan_reset_2 : decode prog_7_method_2_code 2 = .ok (.iload_n 1, 1) := by decide +kernel
theorem d_Plan_reset_3 : decode prog_7_method_2_code 3 = .ok (.aload_n 0, 1) := by decide +kernel
theorem d_Plan_reset_4 : decode prog_7_method_2_code 4 = .ok (.getfield 9, 3) := by decide +kernel
theorem d_Plan_reset_7 : decode prog_7_method_2_code 7 = .ok (.if_icmp .ge 41, 3) := by decide +kernel
theorem d_Plan_reset_10 : decode prog_7_method_2_code 10 = .ok (.aload_n 0, 1) := by decide +kernel
theorem d_Plan_reset_11 : decode prog_7_method_2_code 11 = .ok (.getfield 18, 3) := by decide +kernel
theorem d_Plan_reset_14 : decode prog_7_method_2_code 14 = .ok (.iload_n 1, 1) := by decide +kernel
theorem d_Plan_reset_15 : decode prog_7_method_2_code 15 = .ok (.iconst 1, 1) := by decide +kernel
theorem d_Plan_reset_16 : decode prog_7_method_2_code 16 = .ok (.iastore, 1) := by decide +kernel
theorem d_Plan_reset_17 : decode prog_7_method_2_code 17 = .ok (.aload_n 0, 1) := by decide +kernel
theorem d_Plan_reset_18 : decode prog_7_method_2_code 18 = .ok (.getfield 22, 3) := by decide +kernel
theorem d_Plan_reset_21 : decode prog_7_method_2_code 21 = .ok (.iload_n 1, 1) := by decide +kernel
theorem d_Plan_reset_22 : decode prog_7_method_2_code 22 = .ok (.iconst 1, 1) := by decide +kernel
theorem d_Plan_reset_23 : decode prog_7_method_2_code 23 = .ok (.iastore, 1) := by decide +kernel
theorem d_Plan_reset_24 : decode prog_7_method_2_code 24 = .ok (.aload_n 0, 1) := by decide +kernel
theorem d_Plan_reset_25 : decode prog_7_method_2_code 25 = .ok (.getfield 25, 3) := by decide +kernel
theorem d_Plan_reset_28 : decode prog_7_method_2_code 28 = .ok (.iload_n 1, 1) := by decide +kernel
theorem d_Plan_reset_29 : decode prog_7_method_2_code 29 = .ok (.iload_n 1, 1) := by decide +kernel
theorem d_Plan_reset_30 : decode prog_7_method_2_code 30 = .ok (.i2l, 1) := by decide +kernel
theorem d_Plan_reset_31 : decode prog_7_method_2_code 31 = .ok (.lastore, 1) := by decide +kernel
theorem d_Plan_reset_32 : decode prog_7_method_2_code 32 = .ok (.aload_n 0, 1) := by decide +kernel
theorem d_Plan_reset_33 : decode prog_7_method_2_code 33 = .ok (.getfield 34, 3) := by decide +kernel
theorem d_Plan_reset_36 : decode prog_7_method_2_code 36 = .ok (.getfield 48, 3) := by decide +kernel
theorem d_Plan_reset_39 : decode prog_7_method_2_code 39 = .ok (.iload_n 1, 1) := by decide +kernel
theorem d_Plan_reset_40 : decode prog_7_method_2_code 40 = .ok (.iconst 0, 1) := by decide +kernel
theorem d_Plan_reset_41 : decode prog_7_method_2_code 41 = .ok (.iastore, 1) := by decide +kernel
theorem d_Plan_reset_42 : decode prog_7_method_2_code 42 = .ok (.iinc 1 1, 3) := by decide +kernel
theorem d_Plan_reset_45 : decode prog_7_method_2_code 45 = .ok (.goto (-43), 3) := by decide +kernel
theorem d_Plan_reset_48 : decode prog_7_method_2_code 48 = .ok (.aload_n 0, 1) := by decide +kernel
theorem d_Plan_reset_49 : decode prog_7_method_2_code 49 = .ok (.getfield 41, 3) := by decide +kernel
theorem d_Plan_reset_52 : decode prog_7_method_2_code 52 = .ok (.iconst 0, 1) := by decide +kernel
theorem d_Plan_reset_53 : decode prog_7_method_2_code 53 = .ok (.putfield 51, 3) := by decide +kernel
theorem d_Plan_reset_56 : decode prog_7_method_2_code 56 = .ok (.aload_n 0, 1) := by decide +kernel
theorem d_Plan_reset_57 : decode prog_7_method_2_code 57 = .ok (.iconst (-1), 1) := by decide +kernel
theorem d_Plan_reset_58 : decode prog_7_method_2_code 58 = .ok (.putfield 53, 3) := by decide +kernel
theorem d_Plan_reset_61 : decode prog_7_method_2_code 61 = .ok (.return_, 1) := by decide +kernel
theorem d_Course_isFinished_0 : decode prog_2_method_4_code 0 = .ok (.aload_n 0, 1) := by decide +kernel
theorem d_Course_isFinished_1 : decode prog_2_method_4_code 1 = .ok (.getfield 37, 3) := by decide +kernel
theorem d_Course_isFinished_4 : decode prog_2_method_4_code 4 = .ok (.iload_n 1, 1) := by decide +kernel
theorem d_Course_isFinished_5 : decode prog_2_method_4_code 5 = .ok (.iaload, 1) := by decide +kernel
theorem d_Course_isFinished_6 : decode prog_2_method_4_code 6 = .ok (.aload_n 0, 1) := by decide +kernel
theorem d_Course_isFinished_7 : decode prog_2_method_4_code 7 = .ok (.getfield 9, 3) := by decide +kernel
theorem d_Course_isFinished_10 : decode prog_2_method_4_code 10 = .ok (.getfield 116, 3) := by decide +kernel
theorem d_Course_isFinished_13 : decode prog_2_method_4_code 13 = .ok (.iload_n 1, 1) := by decide +kernel
theorem d_Course_isFinished_14 : decode prog_2_method_4_code 14 = .ok (.iaload, 1) := by decide +kernel
theorem d_Course_isFinished_15 : decode prog_2_method_4_code 15 = .ok (.if_icmp .lt 7, 3) := by decide +kernel
theorem d_Course_isFinished_18 : decode prog_2_method_4_code 18 = .ok (.iconst 1, 1) := by decide +kernel
theorem d_Course_isFinished_19 : decode prog_2_method_4_code 19 = .ok (.goto 4, 3) := by decide +kernel
theorem d_Course_isFinished_22 : decode prog_2_method_4_code 22 = .ok (.iconst 0, 1) := by decide +kernel
theorem d_Course_isFinished_23 : decode prog_2_method_4_code 23 = .ok (.ireturn, 1) := by decide +kernel
theorem d_Course_canTake_0 : decode prog_2_method_7_code 0 = .ok (.aload_n 0, 1) := by decide +kernel
theorem d_Course_canTake_1 : decode prog_2_method_7_code 1 = .ok (.getfield 26, 3) := by decide +kernel
theorem d_Course_canTake_4 : decode prog_2_method_7_code 4 = .ok (.invokevirtual 145, 3) := by decide +kernel
theorem d_Course_canTake_7 : decode prog_2_method_7_code 7 = .ok (.istore_n 1, 1) := by decide +kernel
theorem d_Course_canTake_8 : decode prog_2_method_7_code 8 = .ok (.iload_n 1, 1) := by decide +kernel
theorem d_Course_canTake_9 : decode prog_2_method_7_code 9 = .ok (.iconst (-1), 1) := by decide +kernel
theorem d_Course_canTake_10 : decode prog_2_method_7_code 10 = .ok (.if_icmp .eq 31, 3) := by decide +kernel
theorem d_Course_canTake_13 : decode prog_2_method_7_code 13 = .ok (.aload_n 0, 1) := by decide +kernel
theorem d_Course_canTake_14 : decode prog_2_method_7_code 14 = .ok (.getfield 79, 3) := by decide +kernel
theorem d_Course_canTake_17 : decode prog_2_method_7_code 17 = .ok (.aload_n 0, 1) := by decide +kernel
theorem d_Course_canTake_18 : decode prog_2_method_7_code 18 = .ok (.getfield 9, 3) := by decide +kernel
theorem d_Course_canTake_21 : decode prog_2_method_7_code 21 = .ok (.getfield 148, 3) := by decide +kernel
theorem d_Course_canTake_24 : decode prog_2_method_7_code 24 = .ok (.iload_n 1, 1) := by decide +kernel
theorem d_Course_canTake_25 : decode prog_2_method_7_code 25 = .ok (.iaload, 1) := by decide +kernel
theorem d_Course_canTake_26 : decode prog_2_method_7_code 26 = .ok (.iadd, 1) := by decide +kernel
theorem d_Course_canTake_27 : decode prog_2_method_7_code 27 = .ok (.aload_n 0, 1) := by decide +kernel
theorem d_Course_canTake_28 : decode prog_2_method_7_code 28 = .ok (.getfield 9, 3) := by decide +kernel
theorem d_Course_canTake_31 : decode prog_2_method_7_code 31 = .ok (.getfield 151, 3) := by decide +kernel
theorem d_Course_canTake_34 : decode prog_2_method_7_code 34 = .ok (.if_icmp .gt 7, 3) := by decide +kernel
theorem d_Course_canTake_37 : decode prog_2_method_7_code 37 = .ok (.iconst 1, 1) := by decide +kernel
theorem d_Course_canTake_38 : decode prog_2_method_7_code 38 = .ok (.goto 4, 3) := by decide +kernel
theorem d_Course_canTake_41 : decode prog_2_method_7_code 41 = .ok (.iconst 0, 1) := by decide +kernel
theorem d_Course_canTake_42 : decode prog_2_method_7_code 42 = .ok (.ireturn, 1) := by decide +kernel
theorem d_Course_shareToWaitFor_0 : decode prog_2_method_8_code 0 = .ok (.aload_n 0, 1) := by decide +kernel
theorem d_Course_shareToWaitFor_1 : decode prog_2_method_8_code 1 = .ok (.getfield 9, 3) := by decide +kernel
theorem d_Course_shareToWaitFor_4 : decode prog_2_method_8_code 4 = .ok (.getfield 154, 3) := by decide +kernel
theorem d_Course_shareToWaitFor_7 : decode prog_2_method_8_code 7 = .ok (.iload_n 1, 1) := by decide +kernel
theorem d_Course_shareToWaitFor_8 : decode prog_2_method_8_code 8 = .ok (.aload_n 0, 1) := by decide +kernel
theorem d_Course_shareToWaitFor_9 : decode prog_2_method_8_code 9 = .ok (.getfield 37, 3) := by decide +kernel
theorem d_Course_shareToWaitFor_12 : decode prog_2_method_8_code 12 = .ok (.iload_n 1, 1) := by decide +kernel
theorem d_Course_shareToWaitFor_13 : decode prog_2_method_8_code 13 = .ok (.iaload, 1) := by decide +kernel
theorem d_Course_shareToWaitFor_14 : decode prog_2_method_8_code 14 = .ok (.aload_n 0, 1) := by decide +kernel
theorem d_Course_shareToWaitFor_15 : decode prog_2_method_8_code 15 = .ok (.getfield 37, 3) := by decide +kernel
theorem d_Course_shareToWaitFor_18 : decode prog_2_method_8_code 18 = .ok (.invokevirtual 158, 3) := by decide +kernel
theorem d_Course_shareToWaitFor_21 : decode prog_2_method_8_code 21 = .ok (.ireturn, 1) := by decide +kernel
theorem d_Course_isStuck_0 : decode prog_2_method_6_code 0 = .ok (.iconst 0, 1) := by decide +kernel
theorem d_Course_isStuck_1 : decode prog_2_method_6_code 1 = .ok (.istore_n 1, 1) := by decide +kernel
theorem d_Course_isStuck_2 : decode prog_2_method_6_code 2 = .ok (.iload_n 1, 1) := by decide +kernel
theorem d_Course_isStuck_3 : decode prog_2_method_6_code 3 = .ok (.aload_n 0, 1) := by decide +kernel
theorem d_Course_isStuck_4 : decode prog_2_method_6_code 4 = .ok (.getfield 33, 3) := by decide +kernel
theorem d_Course_isStuck_7 : decode prog_2_method_6_code 7 = .ok (.getfield 125, 3) := by decide +kernel
theorem d_Course_isStuck_10 : decode prog_2_method_6_code 10 = .ok (.if_icmp .ge 53, 3) := by decide +kernel
theorem d_Course_isStuck_13 : decode prog_2_method_6_code 13 = .ok (.aload_n 0, 1) := by decide +kernel
theorem d_Course_isStuck_14 : decode prog_2_method_6_code 14 = .ok (.getfield 33, 3) := by decide +kernel
theorem d_Course_isStuck_17 : decode prog_2_method_6_code 17 = .ok (.getfield 132, 3) := by decide +kernel
theorem d_Course_isStuck_20 : decode prog_2_method_6_code 20 = .ok (.aload_n 0, 1) := by decide +kernel
theorem d_Course_isStuck_21 : decode prog_2_method_6_code 21 = .ok (.getfield 33, 3) := by decide +kernel
theorem d_Course_isStuck_24 : decode prog_2_method_6_code 24 = .ok (.getfield 135, 3) := by decide +kernel
theorem d_Course_isStuck_27 : decode prog_2_method_6_code 27 = .ok (.iload_n 1, 1) := by decide +kernel
theorem d_Course_isStuck_28 : decode prog_2_method_6_code 28 = .ok (.iaload, 1) := by decide +kernel
theorem d_Course_isStuck_29 : decode prog_2_method_6_code 29 = .ok (.iaload, 1) := by decide +kernel
theorem d_Course_isStuck_30 : decode prog_2_method_6_code 30 = .ok (.istore_n 2, 1) := by decide +kernel
theorem d_Course_isStuck_31 : decode prog_2_method_6_code 31 = .ok (.iload_n 2, 1) := by decide +kernel
theorem d_Course_isStuck_32 : decode prog_2_method_6_code 32 = .ok (.iconst (-1), 1) := by decide +kernel
theorem d_Course_isStuck_33 : decode prog_2_method_6_code 33 = .ok (.if_icmp .ne 13, 3) := by decide +kernel
theorem d_Course_isStuck_36 : decode prog_2_method_6_code 36 = .ok (.aload_n 0, 1) := by decide +kernel
theorem d_Course_isStuck_37 : decode prog_2_method_6_code 37 = .ok (.invokevirtual 138, 3) := by decide +kernel
theorem d_Course_isStuck_40 : decode prog_2_method_6_code 40 = .ok (.ifCond .eq 17, 3) := by decide +kernel
theorem d_Course_isStuck_43 : decode prog_2_method_6_code 43 = .ok (.goto 12, 3) := by decide +kernel
theorem d_Course_isStuck_46 : decode prog_2_method_6_code 46 = .ok (.aload_n 0, 1) := by decide +kernel
theorem d_Course_isStuck_47 : decode prog_2_method_6_code 47 = .ok (.iload_n 2, 1) := by decide +kernel
theorem d_Course_isStuck_48 : decode prog_2_method_6_code 48 = .ok (.invokevirtual 141, 3) := by decide +kernel
theorem d_Course_isStuck_51 : decode prog_2_method_6_code 51 = .ok (.iconst (-1), 1) := by decide +kernel
theorem d_Course_isStuck_52 : decode prog_2_method_6_code 52 = .ok (.if_icmp .ne 5, 3) := by decide +kernel
theorem d_Course_isStuck_55 : decode prog_2_method_6_code 55 = .ok (.iconst 0, 1) := by decide +kernel
theorem d_Course_isStuck_56 : decode prog_2_method_6_code 56 = .ok (.ireturn, 1) := by decide +kernel
theorem d_Course_isStuck_57 : decode prog_2_method_6_code 57 = .ok (.iinc 1 1, 3) := by decide +kernel
theorem d_Course_isStuck_60 : decode prog_2_method_6_code 60 = .ok (.goto (-58), 3) := by decide +kernel
theorem d_Course_isStuck_63 : decode prog_2_method_6_code 63 = .ok (.iconst 1, 1) := by decide +kernel
theorem d_Course_isStuck_64 : decode prog_2_method_6_code 64 = .ok (.ireturn, 1) := by decide +kernel
theorem d_Course_endByState_0 : decode prog_2_method_5_code 0 = .ok (.aload_n 0, 1) := by decide +kernel
theorem d_Course_endByState_1 : decode prog_2_method_5_code 1 = .ok (.getfield 76, 3) := by decide +kernel
theorem d_Course_endByState_4 : decode prog_2_method_5_code 4 = .ok (.aload_n 0, 1) := by decide +kernel
theorem d_Course_endByState_5 : decode prog_2_method_5_code 5 = .ok (.getfield 9, 3) := by decide +kernel
theorem d_Course_endByState_8 : decode prog_2_method_5_code 8 = .ok (.getfield 17, 3) := by decide +kernel
theorem d_Course_endByState_11 : decode prog_2_method_5_code 11 = .ok (.if_icmp .lt 5, 3) := by decide +kernel
theorem d_Course_endByState_14 : decode prog_2_method_5_code 14 = .ok (.iconst 0, 1) := by decide +kernel
theorem d_Course_endByState_15 : decode prog_2_method_5_code 15 = .ok (.ireturn, 1) := by decide +kernel
theorem d_Course_endByState_16 : decode prog_2_method_5_code 16 = .ok (.aload_n 0, 1) := by decide +kernel
theorem d_Course_endByState_17 : decode prog_2_method_5_code 17 = .ok (.getfield 9, 3) := by decide +kernel
theorem d_Course_endByState_20 : decode prog_2_method_5_code 20 = .ok (.getfield 119, 3) := by decide +kernel
theorem d_Course_endByState_23 : decode prog_2_method_5_code 23 = .ok (.iconst (-1), 1) := by decide +kernel
theorem d_Course_endByState_24 : decode prog_2_method_5_code 24 = .ok (.if_icmp .eq 19, 3) := by decide +kernel
theorem d_Course_endByState_27 : decode prog_2_method_5_code 27 = .ok (.aload_n 0, 1) := by decide +kernel
theorem d_Course_endByState_28 : decode prog_2_method_5_code 28 = .ok (.aload_n 0, 1) := by decide +kernel
theorem d_Course_endByState_29 : decode prog_2_method_5_code 29 = .ok (.getfield 9, 3) := by decide +kernel
theorem d_Course_endByState_32 : decode prog_2_method_5_code 32 = .ok (.getfield 119, 3) := by decide +kernel
theorem d_Course_endByState_35 : decode prog_2_method_5_code 35 = .ok (.invokevirtual 122, 3) := by decide +kernel
theorem d_Course_endByState_38 : decode prog_2_method_5_code 38 = .ok (.ifCond .eq 5, 3) := by decide +kernel
theorem d_Course_endByState_41 : decode prog_2_method_5_code 41 = .ok (.iconst 1, 1) := by decide +kernel
theorem d_Course_endByState_42 : decode prog_2_method_5_code 42 = .ok (.ireturn, 1) := by decide +kernel
theorem d_Course_endByState_43 : decode prog_2_method_5_code 43 = .ok (.aload_n 0, 1) := by decide +kernel
theorem d_Course_endByState_44 : decode prog_2_method_5_code 44 = .ok (.getfield 33, 3) := by decide +kernel
theorem d_Course_endByState_47 : decode prog_2_method_5_code 47 = .ok (.getfield 125, 3) := by decide +kernel
theorem d_Course_endByState_50 : decode prog_2_method_5_code 50 = .ok (.ifCond .ne 5, 3) := by decide +kernel
theorem d_Course_endByState_53 : decode prog_2_method_5_code 53 = .ok (.iconst (-1), 1) := by decide +kernel
theorem d_Course_endByState_54 : decode prog_2_method_5_code 54 = .ok (.ireturn, 1) := by decide +kernel
theorem d_Course_endByState_55 : decode prog_2_method_5_code 55 = .ok (.aload_n 0, 1) := by decide +kernel
theorem d_Course_endByState_56 : decode prog_2_method_5_code 56 = .ok (.invokevirtual 128, 3) := by decide +kernel
theorem d_Course_endByState_59 : decode prog_2_method_5_code 59 = .ok (.ifCond .eq 8, 3) := by decide +kernel
theorem d_Course_endByState_62 : decode prog_2_method_5_code 62 = .ok (.bipush (-2), 2) := by decide +kernel
theorem d_Course_endByState_64 : decode prog_2_method_5_code 64 = .ok (.goto 4, 3) := by decide +kernel
theorem d_Course_endByState_67 : decode prog_2_method_5_code 67 = .ok (.iconst 2, 1) := by decide +kernel
theorem d_Course_endByState_68 : decode prog_2_method_5_code 68 = .ok (.ireturn, 1) := by decide +kernel
theorem d_Course_take_0 : decode prog_2_method_10_code 0 = .ok (.aload_n 0, 1) := by decide +kernel
theorem d_Course_take_1 : decode prog_2_method_10_code 1 = .ok (.invokevirtual 138, 3) := by decide +kernel
theorem d_Course_take_4 : decode prog_2_method_10_code 4 = .ok (.ifCond .ne 15, 3) := by decide +kernel
theorem d_Course_take_7 : decode prog_2_method_10_code 7 = .ok (.aload_n 0, 1) := by decide +kernel
theorem d_Course_take_8 : decode prog_2_method_10_code 8 = .ok (.dup, 1) := by decide +kernel
theorem d_Course_take_9 : decode prog_2_method_10_code 9 = .ok (.getfield 88, 3) := by decide +kernel
theorem d_Course_take_12 : decode prog_2_method_10_code 12 = .ok (.iconst 1, 1) := by decide +kernel
theorem d_Course_take_13 : decode prog_2_method_10_code 13 = .ok (.iadd, 1) := by decide +kernel
theorem d_Course_take_14 : decode prog_2_method_10_code 14 = .ok (.putfield 88, 3) := by decide +kernel
theorem d_Course_take_17 : decode prog_2_method_10_code 17 = .ok (.iconst 0, 1) := by decide +kernel
theorem d_Course_take_18 : decode prog_2_method_10_code 18 = .ok (.ireturn, 1) := by decide +kernel
theorem d_Course_take_19 : decode prog_2_method_10_code 19 = .ok (.aload_n 0, 1) := by decide +kernel
theorem d_Course_take_20 : decode prog_2_method_10_code 20 = .ok (.getfield 26, 3) := by decide +kernel
theorem d_Course_take_23 : decode prog_2_method_10_code 23 = .ok (.invokevirtual 145, 3) := by decide +kernel
theorem d_Course_take_26 : decode prog_2_method_10_code 26 = .ok (.istore_n 2, 1) := by decide +kernel
theorem d_Course_take_27 : decode prog_2_method_10_code 27 = .ok (.aload_n 0, 1) := by decide +kernel
theorem d_Course_take_28 : decode prog_2_method_10_code 28 = .ok (.getfield 26, 3) := by decide +kernel
theorem d_Course_take_31 : decode prog_2_method_10_code 31 = .ok (.invokevirtual 178, 3) := by decide +kernel
theorem d_Course_take_34 : decode prog_2_method_10_code 34 = .ok (.aload_n 0, 1) := by decide +kernel
theorem d_Course_take_35 : decode prog_2_method_10_code 35 = .ok (.getfield 33, 3) := by decide +kernel
theorem d_Course_take_38 : decode prog_2_method_10_code 38 = .ok (.getfield 132, 3) := by decide +kernel
theorem d_Course_take_41 : decode prog_2_method_10_code 41 = .ok (.iload_n 1, 1) := by decide +kernel
theorem d_Course_take_42 : decode prog_2_method_10_code 42 = .ok (.iload_n 2, 1) := by decide +kernel
theorem d_Course_take_43 : decode prog_2_method_10_code 43 = .ok (.iastore, 1) := by decide +kernel
theorem d_Course_take_44 : decode prog_2_method_10_code 44 = .ok (.aload_n 0, 1) := by decide +kernel
theorem d_Course_take_45 : decode prog_2_method_10_code 45 = .ok (.getfield 46, 3) := by decide +kernel
theorem d_Course_take_48 : decode prog_2_method_10_code 48 = .ok (.iload_n 2, 1) := by decide +kernel
theorem d_Course_take_49 : decode prog_2_method_10_code 49 = .ok (.dup2, 1) := by decide +kernel
theorem d_Course_take_50 : decode prog_2_method_10_code 50 = .ok (.iaload, 1) := by decide +kernel
theorem d_Course_take_51 : decode prog_2_method_10_code 51 = .ok (.iconst 1, 1) := by decide +kernel
theorem d_Course_take_52 : decode prog_2_method_10_code 52 = .ok (.iadd, 1) := by decide +kernel
theorem d_Course_take_53 : decode prog_2_method_10_code 53 = .ok (.iastore, 1) := by decide +kernel
theorem d_Course_take_54 : decode prog_2_method_10_code 54 = .ok (.aload_n 0, 1) := by decide +kernel
theorem d_Course_take_55 : decode prog_2_method_10_code 55 = .ok (.dup, 1) := by decide +kernel
theorem d_Course_take_56 : decode prog_2_method_10_code 56 = .ok (.getfield 79, 3) := by decide +kernel
theorem d_Course_take_59 : decode prog_2_method_10_code 59 = .ok (.aload_n 0, 1) := by decide +kernel
theorem d_Course_take_60 : decode prog_2_method_10_code 60 = .ok (.getfield 9, 3) := by decide +kernel
theorem d_Course_take_63 : decode prog_2_method_10_code 63 = .ok (.getfield 148, 3) := by decide +kernel
theorem d_Course_take_66 : decode prog_2_method_10_code 66 = .ok (.iload_n 2, 1) := by decide +kernel
theorem d_Course_take_67 : decode prog_2_method_10_code 67 = .ok (.iaload, 1) := by decide +kernel
theorem d_Course_take_68 : decode prog_2_method_10_code 68 = .ok (.iadd, 1) := by decide +kernel
theorem d_Course_take_69 : decode prog_2_method_10_code 69 = .ok (.putfield 79, 3) := by decide +kernel
theorem d_Course_take_72 : decode prog_2_method_10_code 72 = .ok (.aload_n 0, 1) := by decide +kernel
theorem d_Course_take_73 : decode prog_2_method_10_code 73 = .ok (.aload_n 0, 1) := by decide +kernel
theorem d_Course_take_74 : decode prog_2_method_10_code 74 = .ok (.getfield 82, 3) := by decide +kernel
theorem d_Course_take_77 : decode prog_2_method_10_code 77 = .ok (.aload_n 0, 1) := by decide +kernel
theorem d_Course_take_78 : decode prog_2_method_10_code 78 = .ok (.getfield 79, 3) := by decide +kernel
theorem d_Course_take_81 : decode prog_2_method_10_code 81 = .ok (.invokestatic 181, 3) := by decide +kernel
theorem d_Course_take_84 : decode prog_2_method_10_code 84 = .ok (.putfield 82, 3) := by decide +kernel
theorem d_Course_take_87 : decode prog_2_method_10_code 87 = .ok (.iconst 1, 1) := by decide +kernel
theorem d_Course_take_88 : decode prog_2_method_10_code 88 = .ok (.ireturn, 1) := by decide +kernel
theorem d_Course_fail_0 : decode prog_2_method_11_code 0 = .ok (.aload_n 0, 1) := by decide +kernel
theorem d_Course_fail_1 : decode prog_2_method_11_code 1 = .ok (.getfield 33, 3) := by decide +kernel
theorem d_Course_fail_4 : decode prog_2_method_11_code 4 = .ok (.iload_n 1, 1) := by decide +kernel
theorem d_Course_fail_5 : decode prog_2_method_11_code 5 = .ok (.invokevirtual 187, 3) := by decide +kernel
theorem d_Course_fail_8 : decode prog_2_method_11_code 8 = .ok (.aload_n 0, 1) := by decide +kernel
theorem d_Course_fail_9 : decode prog_2_method_11_code 9 = .ok (.getfield 37, 3) := by decide +kernel
theorem d_Course_fail_12 : decode prog_2_method_11_code 12 = .ok (.iload_n 2, 1) := by decide +kernel
theorem d_Course_fail_13 : decode prog_2_method_11_code 13 = .ok (.iconst 0, 1) := by decide +kernel
theorem d_Course_fail_14 : decode prog_2_method_11_code 14 = .ok (.iastore, 1) := by decide +kernel
theorem d_Course_fail_15 : decode prog_2_method_11_code 15 = .ok (.aload_n 0, 1) := by decide +kernel
theorem d_Course_fail_16 : decode prog_2_method_11_code 16 = .ok (.dup, 1) := by decide +kernel
theorem d_Course_fail_17 : decode prog_2_method_11_code 17 = .ok (.getfield 79, 3) := by decide +kernel
theorem d_Course_fail_20 : decode prog_2_method_11_code 20 = .ok (.aload_n 0, 1) := by decide +kernel
theorem d_Course_fail_21 : decode prog_2_method_11_code 21 = .ok (.getfield 9, 3) := by decide +kernel
theorem d_Course_fail_24 : decode prog_2_method_11_code 24 = .ok (.getfield 148, 3) := by decide +kernel
theorem d_Course_fail_27 : decode prog_2_method_11_code 27 = .ok (.iload_n 2, 1) := by decide +kernel
theorem d_Course_fail_28 : decode prog_2_method_11_code 28 = .ok (.iaload, 1) := by decide +kernel
theorem d_Course_fail_29 : decode prog_2_method_11_code 29 = .ok (.isub, 1) := by decide +kernel
theorem d_Course_fail_30 : decode prog_2_method_11_code 30 = .ok (.putfield 79, 3) := by decide +kernel
theorem d_Course_fail_33 : decode prog_2_method_11_code 33 = .ok (.aload_n 0, 1) := by decide +kernel
theorem d_Course_fail_34 : decode prog_2_method_11_code 34 = .ok (.getfield 26, 3) := by decide +kernel
theorem d_Course_fail_37 : decode prog_2_method_11_code 37 = .ok (.iload_n 2, 1) := by decide +kernel
theorem d_Course_fail_38 : decode prog_2_method_11_code 38 = .ok (.invokevirtual 190, 3) := by decide +kernel
theorem d_Course_fail_41 : decode prog_2_method_11_code 41 = .ok (.return_, 1) := by decide +kernel
theorem d_Course_doStep_0 : decode prog_2_method_12_code 0 = .ok (.aload_n 0, 1) := by decide +kernel
theorem d_Course_doStep_1 : decode prog_2_method_12_code 1 = .ok (.getfield 37, 3) := by decide +kernel
theorem d_Course_doStep_4 : decode prog_2_method_12_code 4 = .ok (.iload_n 2, 1) := by decide +kernel
theorem d_Course_doStep_5 : decode prog_2_method_12_code 5 = .ok (.iaload, 1) := by decide +kernel
theorem d_Course_doStep_6 : decode prog_2_method_12_code 6 = .ok (.istore_n 3, 1) := by decide +kernel
theorem d_Course_doStep_7 : decode prog_2_method_12_code 7 = .ok (.aload_n 0, 1) := by decide +kernel
theorem d_Course_doStep_8 : decode prog_2_method_12_code 8 = .ok (.getfield 43, 3) := by decide +kernel
theorem d_Course_doStep_11 : decode prog_2_method_12_code 11 = .ok (.iload_n 2, 1) := by decide +kernel
theorem d_Course_doStep_12 : decode prog_2_method_12_code 12 = .ok (.aaload, 1) := by decide +kernel
theorem d_Course_doStep_13 : decode prog_2_method_12_code 13 = .ok (.iload_n 3, 1) := by decide +kernel
theorem d_Course_doStep_14 : decode prog_2_method_12_code 14 = .ok (.laload, 1) := by decide +kernel
theorem d_Course_doStep_15 : decode prog_2_method_12_code 15 = .ok (.ldc2_w 104, 3) := by decide +kernel
theorem d_Course_doStep_18 : decode prog_2_method_12_code 18 = .ok (.lmul, 1) := by decide +kernel
theorem d_Course_doStep_19 : decode prog_2_method_12_code 19 = .ok (.iload_n 3, 1) := by decide +kernel
theorem d_Course_doStep_20 : decode prog_2_method_12_code 20 = .ok (.i2l, 1) := by decide +kernel
theorem d_Course_doStep_21 : decode prog_2_method_12_code 21 = .ok (.ladd, 1) := by decide +kernel
theorem d_Course_doStep_22 : decode prog_2_method_12_code 22 = .ok (.lconst 1, 1) := by decide +kernel
theorem d_Course_doStep_23 : decode prog_2_method_12_code 23 = .ok (.ladd, 1) := by decide +kernel
theorem d_Course_doStep_24 : decode prog_2_method_12_code 24 = .ok (.aload_n 0, 1) := by decide +kernel
theorem d_Course_doStep_25 : decode prog_2_method_12_code 25 = .ok (.getfield 9, 3) := by decide +kernel
theorem d_Course_doStep_28 : decode prog_2_method_12_code 28 = .ok (.getfield 154, 3) := by decide +kernel
theorem d_Course_doStep_31 : decode prog_2_method_12_code 31 = .ok (.iload_n 2, 1) := by decide +kernel
theorem d_Course_doStep_32 : decode prog_2_method_12_code 32 = .ok (.iload_n 3, 1) := by decide +kernel
theorem d_Course_doStep_33 : decode prog_2_method_12_code 33 = .ok (.aload_n 0, 1) := by decide +kernel
theorem d_Course_doStep_34 : decode prog_2_method_12_code 34 = .ok (.getfield 43, 3) := by decide +kernel
theorem d_Course_doStep_37 : decode prog_2_method_12_code 37 = .ok (.invokevirtual 193, 3) := by decide +kernel
theorem d_Course_doStep_40 : decode prog_2_method_12_code 40 = .ok (.ladd, 1) := by decide +kernel
theorem d_Course_doStep_41 : decode prog_2_method_12_code 41 = .ok (.lstore 4, 2) := by decide +kernel
theorem d_Course_doStep_43 : decode prog_2_method_12_code 43 = .ok (.aload_n 0, 1) := by decide +kernel
theorem d_Course_doStep_44 : decode prog_2_method_12_code 44 = .ok (.getfield 43, 3) := by decide +kernel
theorem d_Course_doStep_47 : decode prog_2_method_12_code 47 = .ok (.iload_n 2, 1) := by decide +kernel
theorem d_Course_doStep_48 : decode prog_2_method_12_code 48 = .ok (.aaload, 1) := by decide +kernel
theorem d_Course_doStep_49 : decode prog_2_method_12_code 49 = .ok (.iload_n 3, 1) := by decide +kernel
theorem d_Course_doStep_50 : decode prog_2_method_12_code 50 = .ok (.iconst 1, 1) := by decide +kernel
theorem d_Course_doStep_51 : decode prog_2_method_12_code 51 = .ok (.iadd, 1) := by decide +kernel
theorem d_Course_doStep_52 : decode prog_2_method_12_code 52 = .ok (.lload 4, 2) := by decide +kernel
theorem d_Course_doStep_54 : decode prog_2_method_12_code 54 = .ok (.lload 4, 2) := by decide +kernel
theorem d_Course_doStep_56 : decode prog_2_method_12_code 56 = .ok (.bipush 29, 2) := by decide +kernel
theorem d_Course_doStep_58 : decode prog_2_method_12_code 58 = .ok (.lushr, 1) := by decide +kernel
theorem d_Course_doStep_59 : decode prog_2_method_12_code 59 = .ok (.lxor, 1) := by decide +kernel
theorem d_Course_doStep_60 : decode prog_2_method_12_code 60 = .ok (.lastore, 1) := by decide +kernel
theorem d_Course_doStep_61 : decode prog_2_method_12_code 61 = .ok (.aload_n 0, 1) := by decide +kernel
theorem d_Course_doStep_62 : decode prog_2_method_12_code 62 = .ok (.getfield 37, 3) := by decide +kernel
theorem d_Course_doStep_65 : decode prog_2_method_12_code 65 = .ok (.iload_n 2, 1) := by decide +kernel
theorem d_Course_doStep_66 : decode prog_2_method_12_code 66 = .ok (.iload_n 3, 1) := by decide +kernel
theorem d_Course_doStep_67 : decode prog_2_method_12_code 67 = .ok (.iconst 1, 1) := by decide +kernel
theorem d_Course_doStep_68 : decode prog_2_method_12_code 68 = .ok (.iadd, 1) := by decide +kernel
theorem d_Course_doStep_69 : decode prog_2_method_12_code 69 = .ok (.iastore, 1) := by decide +kernel
theorem d_Course_doStep_70 : decode prog_2_method_12_code 70 = .ok (.aload_n 0, 1) := by decide +kernel
theorem d_Course_doStep_71 : decode prog_2_method_12_code 71 = .ok (.dup, 1) := by decide +kernel
theorem d_Course_doStep_72 : decode prog_2_method_12_code 72 = .ok (.getfield 94, 3) := by decide +kernel
theorem d_Course_doStep_75 : decode prog_2_method_12_code 75 = .ok (.iconst 1, 1) := by decide +kernel
theorem d_Course_doStep_76 : decode prog_2_method_12_code 76 = .ok (.iadd, 1) := by decide +kernel
theorem d_Course_doStep_77 : decode prog_2_method_12_code 77 = .ok (.putfield 94, 3) := by decide +kernel
theorem d_Course_doStep_80 : decode prog_2_method_12_code 80 = .ok (.aload_n 0, 1) := by decide +kernel
theorem d_Course_doStep_81 : decode prog_2_method_12_code 81 = .ok (.iload_n 2, 1) := by decide +kernel
theorem d_Course_doStep_82 : decode prog_2_method_12_code 82 = .ok (.invokevirtual 122, 3) := by decide +kernel
theorem d_Course_doStep_85 : decode prog_2_method_12_code 85 = .ok (.ifCond .eq 51, 3) := by decide +kernel
theorem d_Course_doStep_88 : decode prog_2_method_12_code 88 = .ok (.aload_n 0, 1) := by decide +kernel
theorem d_Course_doStep_89 : decode prog_2_method_12_code 89 = .ok (.getfield 33, 3) := by decide +kernel
theorem d_Course_doStep_92 : decode prog_2_method_12_code 92 = .ok (.getfield 132, 3) := by decide +kernel
theorem d_Course_doStep_95 : decode prog_2_method_12_code 95 = .ok (.iload_n 1, 1) := by decide +kernel
theorem d_Course_doStep_96 : decode prog_2_method_12_code 96 = .ok (.iconst (-1), 1) := by decide +kernel
theorem d_Course_doStep_97 : decode prog_2_method_12_code 97 = .ok (.iastore, 1) := by decide +kernel
theorem d_Course_doStep_98 : decode prog_2_method_12_code 98 = .ok (.aload_n 0, 1) := by decide +kernel
theorem d_Course_doStep_99 : decode prog_2_method_12_code 99 = .ok (.dup, 1) := by decide +kernel
theorem d_Course_doStep_100 : decode prog_2_method_12_code 100 = .ok (.getfield 79, 3) := by decide +kernel
theorem d_Course_doStep_103 : decode prog_2_method_12_code 103 = .ok (.aload_n 0, 1) := by decide +kernel
theorem d_Course_doStep_104 : decode prog_2_method_12_code 104 = .ok (.getfield 9, 3) := by decide +kernel
theorem d_Course_doStep_107 : decode prog_2_method_12_code 107 = .ok (.getfield 148, 3) := by decide +kernel
theorem d_Course_doStep_110 : decode prog_2_method_12_code 110 = .ok (.iload_n 2, 1) := by decide +kernel
theorem d_Course_doStep_111 : decode prog_2_method_12_code 111 = .ok (.iaload, 1) := by decide +kernel
theorem d_Course_doStep_112 : decode prog_2_method_12_code 112 = .ok (.isub, 1) := by decide +kernel
theorem d_Course_doStep_113 : decode prog_2_method_12_code 113 = .ok (.putfield 79, 3) := by decide +kernel
theorem d_Course_doStep_116 : decode prog_2_method_12_code 116 = .ok (.aload_n 0, 1) := by decide +kernel
theorem d_Course_doStep_117 : decode prog_2_method_12_code 117 = .ok (.getfield 54, 3) := by decide +kernel
theorem d_Course_doStep_120 : decode prog_2_method_12_code 120 = .ok (.aload_n 0, 1) := by decide +kernel
theorem d_Course_doStep_121 : decode prog_2_method_12_code 121 = .ok (.getfield 76, 3) := by decide +kernel
theorem d_Course_doStep_124 : decode prog_2_method_12_code 124 = .ok (.iload_n 2, 1) := by decide +kernel
theorem d_Course_doStep_125 : decode prog_2_method_12_code 125 = .ok (.iastore, 1) := by decide +kernel
theorem d_Course_doStep_126 : decode prog_2_method_12_code 126 = .ok (.aload_n 0, 1) := by decide +kernel
theorem d_Course_doStep_127 : decode prog_2_method_12_code 127 = .ok (.dup, 1) := by decide +kernel
theorem d_Course_doStep_128 : decode prog_2_method_12_code 128 = .ok (.getfield 76, 3) := by decide +kernel
theorem d_Course_doStep_131 : decode prog_2_method_12_code 131 = .ok (.iconst 1, 1) := by decide +kernel
theorem d_Course_doStep_132 : decode prog_2_method_12_code 132 = .ok (.iadd, 1) := by decide +kernel
theorem d_Course_doStep_133 : decode prog_2_method_12_code 133 = .ok (.putfield 76, 3) := by decide +kernel
theorem d_Course_doStep_136 : decode prog_2_method_12_code 136 = .ok (.return_, 1) := by decide +kernel
theorem fl_Course_9 : zw_FL R_Course 9 0 0 := ⟨R_Course, T_Course, 15, rfl, by decide, ly_Course, Or.inl (zw_in (List.mem_of_getElem? (i := 206) (by decide +kernel)) (by decide +kernel))⟩
theorem fl_Course_17 : zw_FL R_Course 17 5 0 := ⟨R_Plan, T_Plan, 8, rfl, by decide, ly_Plan, Or.inr ⟨"TileShares", (zw_in (List.mem_of_getElem? (i := 121) (by decide +kernel)) (by decide +kernel))⟩⟩
theorem fl_Course_26 : zw_FL R_Course 26 0 1 := ⟨R_Course, T_Course, 15, rfl, by decide, ly_Course, Or.inl (zw_in (List.mem_of_getElem? (i := 207) (by decide +kernel)) (by decide +kernel))⟩
theorem fl_Course_33 : zw_FL R_Course 33 0 2 := ⟨R_Course, T_Course, 15, rfl, by decide, ly_Course, Or.inl (zw_in (List.mem_of_getElem? (i := 208) (by decide +kernel)) (by decide +kernel))⟩
theorem fl_Course_37 : zw_FL R_Course 37 0 3 := ⟨R_Course, T_Course, 15, rfl, by decide, ly_Course, Or.inl (zw_in (List.mem_of_getElem? (i := 210) (by decide +kernel)) (by decide +kernel))⟩
theorem fl_Course_43 : zw_FL R_Course 43 0 4 := ⟨R_Course, T_Course, 15, rfl, by decide, ly_Course, Or.inl (zw_in (List.mem_of_getElem? (i := 211) (by decide +kernel)) (by decide +kernel))⟩
theorem fl_Course_46 : zw_FL R_Course 46 0 5 := ⟨R_Course, T_Course, 15, rfl, by decide, ly_Course, Or.inl (zw_in (List.mem_of_getElem? (i := 213) (by decide +kernel)) (by decide +kernel))⟩
theorem fl_Course_54 : zw_FL R_Course 54 0 7 := ⟨R_Course, T_Course, 15, rfl, by decide, ly_Course, Or.inl (zw_in (List.mem_of_getElem? (i := 217) (by decide +kernel)) (by decide +kernel))⟩
theorem fl_Course_76 : zw_FL R_Course 76 0 8 := ⟨R_Course, T_Course, 15, rfl, by decide, ly_Course, Or.inl (zw_in (List.mem_of_getElem? (i := 219) (by decide +kernel)) (by decide +kernel))⟩
theorem fl_Course_79 : zw_FL R_Course 79 0 9 := ⟨R_Course, T_Course, 15, rfl, by decide, ly_Course, Or.inl (zw_in (List.mem_of_getElem? (i := 221) (by decide +kernel)) (by decide +kernel))⟩
theorem fl_Course_82 : zw_FL R_Course 82 0 10 := ⟨R_Course, T_Course, 15, rfl, by decide, ly_Course, Or.inl (zw_in (List.mem_of_getElem? (i := 222) (by decide +kernel)) (by decide +kernel))⟩
theorem fl_Course_88 : zw_FL R_Course 88 0 12 := ⟨R_Course, T_Course, 15, rfl, by decide, ly_Course, Or.inl (zw_in (List.mem_of_getElem? (i := 226) (by decide +kernel)) (by decide +kernel))⟩
theorem fl_Course_94 : zw_FL R_Course 94 0 14 := ⟨R_Course, T_Course, 15, rfl, by decide, ly_Course, Or.inl (zw_in (List.mem_of_getElem? (i := 230) (by decide +kernel)) (by decide +kernel))⟩
theorem fl_Course_116 : zw_FL R_Course 116 5 2 := ⟨R_Plan, T_Plan, 8, rfl, by decide, ly_Plan, Or.inr ⟨"TileShares", (zw_in (List.mem_of_getElem? (i := 128) (by decide +kernel)) (by decide +kernel))⟩⟩
theorem fl_Course_119 : zw_FL R_Course 119 5 7 := ⟨R_Plan, T_Plan, 8, rfl, by decide, ly_Plan, Or.inr ⟨"TileShares", (zw_in (List.mem_of_getElem? (i := 142) (by decide +kernel)) (by decide +kernel))⟩⟩
theorem fl_Course_125 : zw_FL R_Course 125 1 2 := ⟨R_Crew, T_Crew, 3, rfl, by decide, ly_Crew, Or.inr ⟨"TileShares", (zw_in (List.mem_of_getElem? (i := 194) (by decide +kernel)) (by decide +kernel))⟩⟩
theorem fl_Course_132 : zw_FL R_Course 132 1 1 := ⟨R_Crew, T_Crew, 3, rfl, by decide, ly_Crew, Or.inr ⟨"TileShares", (zw_in (List.mem_of_getElem? (i := 192) (by decide +kernel)) (by decide +kernel))⟩⟩
theorem fl_Course_135 : zw_FL R_Course 135 1 0 := ⟨R_Crew, T_Crew, 3, rfl, by decide, ly_Crew, Or.inr ⟨"TileShares", (zw_in (List.mem_of_getElem? (i := 190) (by decide +kernel)) (by decide +kernel))⟩⟩
theorem fl_Course_148 : zw_FL R_Course 148 5 3 := ⟨R_Plan, T_Plan, 8, rfl, by decide, ly_Plan, Or.inr ⟨"TileShares", (zw_in (List.mem_of_getElem? (i := 131) (by decide +kernel)) (by decide +kernel))⟩⟩
theorem fl_Course_151 : zw_FL R_Course 151 5 1 := ⟨R_Plan, T_Plan, 8, rfl, by decide, ly_Plan, Or.inr ⟨"TileShares", (zw_in (List.mem_of_getElem? (i := 125) (by decide +kernel)) (by decide +kernel))⟩⟩
theorem fl_Course_154 : zw_FL R_Course 154 5 5 := ⟨R_Plan, T_Plan, 8, rfl, by decide, ly_Plan, Or.inr ⟨"TileShares", (zw_in (List.mem_of_getElem? (i := 137) (by decide +kernel)) (by decide +kernel))⟩⟩
theorem fl_Plan_9 : zw_FL R_Plan 9 5 0 := ⟨R_Plan, T_Plan, 8, rfl, by decide, ly_Plan, Or.inl (zw_in (List.mem_of_getElem? (i := 120) (by decide +kernel)) (by decide +kernel))⟩
theorem fl_Plan_18 : zw_FL R_Plan 18 5 2 := ⟨R_Plan, T_Plan, 8, rfl, by decide, ly_Plan, Or.inl (zw_in (List.mem_of_getElem? (i := 126) (by decide +kernel)) (by decide +kernel))⟩
theorem fl_Plan_22 : zw_FL R_Plan 22 5 3 := ⟨R_Plan, T_Plan, 8, rfl, by decide, ly_Plan, Or.inl (zw_in (List.mem_of_getElem? (i := 129) (by decide +kernel)) (by decide +kernel))⟩
theorem fl_Plan_25 : zw_FL R_Plan 25 5 4 := ⟨R_Plan, T_Plan, 8, rfl, by decide, ly_Plan, Or.inl (zw_in (List.mem_of_getElem? (i := 132) (by decide +kernel)) (by decide +kernel))⟩
theorem fl_Plan_34 : zw_FL R_Plan 34 5 5 := ⟨R_Plan, T_Plan, 8, rfl, by decide, ly_Plan, Or.inl (zw_in (List.mem_of_getElem? (i := 135) (by decide +kernel)) (by decide +kernel))⟩
theorem fl_Plan_41 : zw_FL R_Plan 41 5 6 := ⟨R_Plan, T_Plan, 8, rfl, by decide, ly_Plan, Or.inl (zw_in (List.mem_of_getElem? (i := 138) (by decide +kernel)) (by decide +kernel))⟩
theorem fl_Plan_48 : zw_FL R_Plan 48 4 0 := ⟨R_Needs, T_Needs, 4, rfl, by decide, ly_Needs, Or.inr ⟨"TileShares", (zw_in (List.mem_of_getElem? (i := 73) (by decide +kernel)) (by decide +kernel))⟩⟩
theorem fp_Course_76 : zw_FP R_Course 76 0 8 (.int) false := ⟨R_Course, T_Course, 15, ty_Course, rfl, by decide, ly_Course, ty_Course_ok, rfl, nm_Course, rfl, Or.inl ⟨(zw_in (List.mem_of_getElem? (i := 219) (by decide +kernel)) (by decide +kernel)), fun h => by cases h⟩⟩
theorem fp_Course_79 : zw_FP R_Course 79 0 9 (.int) false := ⟨R_Course, T_Course, 15, ty_Course, rfl, by decide, ly_Course, ty_Course_ok, rfl, nm_Course, rfl, Or.inl ⟨(zw_in (List.mem_of_getElem? (i := 221) (by decide +kernel)) (by decide +kernel)), fun h => by cases h⟩⟩
theorem fp_Course_82 : zw_FP R_Course 82 0 10 (.int) false := ⟨R_Course, T_Course, 15, ty_Course, rfl, by decide, ly_Course, ty_Course_ok, rfl, nm_Course, rfl, Or.inl ⟨(zw_in (List.mem_of_getElem? (i := 222) (by decide +kernel)) (by decide +kernel)), fun h => by cases h⟩⟩
theorem fp_Course_88 : zw_FP R_Course 88 0 12 (.int) false := ⟨R_Course, T_Course, 15, ty_Course, rfl, by decide, ly_Course, ty_Course_ok, rfl, nm_Course, rfl, Or.inl ⟨(zw_in (List.mem_of_getElem? (i := 226) (by decide +kernel)) (by decide +kernel)), fun h => by cases h⟩⟩
theorem fp_Course_94 : zw_FP R_Course 94 0 14 (.int) false := ⟨R_Course, T_Course, 15, ty_Course, rfl, by decide, ly_Course, ty_Course_ok, rfl, nm_Course, rfl, Or.inl ⟨(zw_in (List.mem_of_getElem? (i := 230) (by decide +kernel)) (by decide +kernel)), fun h => by cases h⟩⟩
theorem fp_Plan_51 : zw_FP R_Plan 51 2 5 (.int) false := ⟨R_Failings, T_Failings, 6, ty_Failings, rfl, by decide, ly_Failings, ty_Failings_ok, rfl, nm_Failings, rfl, Or.inr ⟨rfl, "TileShares", (zw_in (List.mem_of_getElem? (i := 101) (by decide +kernel)) (by decide +kernel))⟩⟩
theorem fp_Plan_53 : zw_FP R_Plan 53 5 7 (.int) false := ⟨R_Plan, T_Plan, 8, ty_Plan, rfl, by decide, ly_Plan, ty_Plan_ok, rfl, nm_Plan, rfl, Or.inl ⟨(zw_in (List.mem_of_getElem? (i := 141) (by decide +kernel)) (by decide +kernel)), fun h => by cases h⟩⟩
theorem mv_Course_122 : zw_MV R_Course 122 Y_Course_isFinished R_Course 1 := ⟨Or.inl (zw_in (List.mem_of_getElem? (i := 486) (by decide +kernel)) (by decide +kernel)), (zw_in (List.mem_of_getElem? (i := 487) (by decide +kernel)) (by decide +kernel)), (zw_in (List.mem_of_getElem? (i := 488) (by decide +kernel)) (by decide +kernel)), (zw_in (List.mem_of_getElem? (i := 489) (by decide +kernel)) (by decide +kernel)), (zw_in (List.mem_of_getElem? (i := 30) (by decide +kernel)) (by decide +kernel)), by decide +kernel, by decide +kernel⟩
theorem mv_Course_128 : zw_MV R_Course 128 Y_Course_isStuck R_Course 0 := ⟨Or.inl (zw_in (List.mem_of_getElem? (i := 490) (by decide +kernel)) (by decide +kernel)), (zw_in (List.mem_of_getElem? (i := 492) (by decide +kernel)) (by decide +kernel)), (zw_in (List.mem_of_getElem? (i := 4) (by decide +kernel)) (by decide +kernel)), (zw_in (List.mem_of_getElem? (i := 493) (by decide +kernel)) (by decide +kernel)), (zw_in (List.mem_of_getElem? (i := 30) (by decide +kernel)) (by decide +kernel)), by decide +kernel, by decide +kernel⟩
theorem mv_Course_138 : zw_MV R_Course 138 Y_Course_canTake R_Course 0 := ⟨Or.inl (zw_in (List.mem_of_getElem? (i := 494) (by decide +kernel)) (by decide +kernel)), (zw_in (List.mem_of_getElem? (i := 496) (by decide +kernel)) (by decide +kernel)), (zw_in (List.mem_of_getElem? (i := 5) (by decide +kernel)) (by decide +kernel)), (zw_in (List.mem_of_getElem? (i := 497) (by decide +kernel)) (by decide +kernel)), (zw_in (List.mem_of_getElem? (i := 30) (by decide +kernel)) (by decide +kernel)), by decide +kernel, by decide +kernel⟩
theorem mv_Course_141 : zw_MV R_Course 141 Y_Course_shareToWaitFor R_Course 1 := ⟨Or.inl (zw_in (List.mem_of_getElem? (i := 502) (by decide +kernel)) (by decide +kernel)), (zw_in (List.mem_of_getElem? (i := 504) (by decide +kernel)) (by decide +kernel)), (zw_in (List.mem_of_getElem? (i := 6) (by decide +kernel)) (by decide +kernel)), (zw_in (List.mem_of_getElem? (i := 505) (by decide +kernel)) (by decide +kernel)), (zw_in (List.mem_of_getElem? (i := 30) (by decide +kernel)) (by decide +kernel)), by decide +kernel, by decide +kernel⟩
theorem mv_Course_145 : zw_MV R_Course 145 Y_Line_first R_Line 0 := ⟨Or.inl (zw_in (List.mem_of_getElem? (i := 498) (by decide +kernel)) (by decide +kernel)), (zw_in (List.mem_of_getElem? (i := 499) (by decide +kernel)) (by decide +kernel)), (zw_in (List.mem_of_getElem? (i := 500) (by decide +kernel)) (by decide +kernel)), (zw_in (List.mem_of_getElem? (i := 501) (by decide +kernel)) (by decide +kernel)), (zw_in (List.mem_of_getElem? (i := 31) (by decide +kernel)) (by decide +kernel)), by decide +kernel, by decide +kernel⟩
theorem mv_Course_158 : zw_MV R_Course 158 Y_Needs_firstUnmet R_Needs 3 := ⟨Or.inl (zw_in (List.mem_of_getElem? (i := 506) (by decide +kernel)) (by decide +kernel)), (zw_in (List.mem_of_getElem? (i := 507) (by decide +kernel)) (by decide +kernel)), (zw_in (List.mem_of_getElem? (i := 508) (by decide +kernel)) (by decide +kernel)), (zw_in (List.mem_of_getElem? (i := 509) (by decide +kernel)) (by decide +kernel)), (zw_in (List.mem_of_getElem? (i := 28) (by decide +kernel)) (by decide +kernel)), by decide +kernel, by decide +kernel⟩
theorem mv_Course_178 : zw_MV R_Course 178 Y_Line_dropFirst R_Line 0 := ⟨Or.inl (zw_in (List.mem_of_getElem? (i := 524) (by decide +kernel)) (by decide +kernel)), (zw_in (List.mem_of_getElem? (i := 525) (by decide +kernel)) (by decide +kernel)), (zw_in (List.mem_of_getElem? (i := 526) (by decide +kernel)) (by decide +kernel)), (zw_in (List.mem_of_getElem? (i := 527) (by decide +kernel)) (by decide +kernel)), (zw_in (List.mem_of_getElem? (i := 31) (by decide +kernel)) (by decide +kernel)), by decide +kernel, by decide +kernel⟩
theorem km_Course_181 : Cond.methodLink R_Course 181 Lib.Math.max.name ∈ zw_Tb := (zw_in (List.mem_of_getElem? (i := 532) (by decide +kernel)) (by decide +kernel))
theorem km_max_st : Cond.static Lib.Math.max.name ∈ zw_Tb := (zw_in (List.mem_of_getElem? (i := 56) (by decide +kernel)) (by decide +kernel))
theorem km_max_co : Cond.code Lib.Math.max.name Lib.Math.max.code 2 (some .int) ∈ zw_Tb := (zw_in (List.mem_of_getElem? (i := 57) (by decide +kernel)) (by decide +kernel))
theorem km_math_in : Cond.initialized "java/lang/Math" ∈ zw_Tb := (zw_in (List.mem_of_getElem? (i := 26) (by decide +kernel)) (by decide +kernel))
theorem mv_Course_187 : zw_MV R_Course 187 Y_Crew_lose R_Crew 1 := ⟨Or.inl (zw_in (List.mem_of_getElem? (i := 541) (by decide +kernel)) (by decide +kernel)), (zw_in (List.mem_of_getElem? (i := 542) (by decide +kernel)) (by decide +kernel)), (zw_in (List.mem_of_getElem? (i := 543) (by decide +kernel)) (by decide +kernel)), (zw_in (List.mem_of_getElem? (i := 544) (by decide +kernel)) (by decide +kernel)), (zw_in (List.mem_of_getElem? (i := 32) (by decide +kernel)) (by decide +kernel)), by decide +kernel, by decide +kernel⟩
theorem mv_Course_190 : zw_MV R_Course 190 Y_Line_append R_Line 1 := ⟨Or.inl (zw_in (List.mem_of_getElem? (i := 545) (by decide +kernel)) (by decide +kernel)), (zw_in (List.mem_of_getElem? (i := 546) (by decide +kernel)) (by decide +kernel)), (zw_in (List.mem_of_getElem? (i := 547) (by decide +kernel)) (by decide +kernel)), (zw_in (List.mem_of_getElem? (i := 548) (by decide +kernel)) (by decide +kernel)), (zw_in (List.mem_of_getElem? (i := 31) (by decide +kernel)) (by decide +kernel)), by decide +kernel, by decide +kernel⟩
theorem mv_Course_193 : zw_MV R_Course 193 Y_Needs_sumOfValues R_Needs 3 := ⟨Or.inl (zw_in (List.mem_of_getElem? (i := 553) (by decide +kernel)) (by decide +kernel)), (zw_in (List.mem_of_getElem? (i := 554) (by decide +kernel)) (by decide +kernel)), (zw_in (List.mem_of_getElem? (i := 555) (by decide +kernel)) (by decide +kernel)), (zw_in (List.mem_of_getElem? (i := 556) (by decide +kernel)) (by decide +kernel)), (zw_in (List.mem_of_getElem? (i := 28) (by decide +kernel)) (by decide +kernel)), by decide +kernel, by decide +kernel⟩
theorem kc_Course_104 : Cond.constantLong R_Course 104 6364136223846793005 ∈ zw_Tb := (zw_in (List.mem_of_getElem? (i := 510) (by decide +kernel)) (by decide +kernel))
theorem kc_Course_106 : Cond.constantLong R_Course 106 1442695040888963407 ∈ zw_Tb := (zw_in (List.mem_of_getElem? (i := 511) (by decide +kernel)) (by decide +kernel))
theorem kc_Model_111 : Cond.constantLong R_Model 111 6364136223846793005 ∈ zw_Tb := (zw_in (List.mem_of_getElem? (i := 786) (by decide +kernel)) (by decide +kernel))
theorem kc_Model_163 : Cond.constantLong R_Model 163 1442695040888963407 ∈ zw_Tb := (zw_in (List.mem_of_getElem? (i := 787) (by decide +kernel)) (by decide +kernel))
theorem kc_Law_65 : Cond.constantLong R_Law 65 4294967295 ∈ zw_Tb := (zw_in (List.mem_of_getElem? (i := 825) (by decide +kernel)) (by decide +kernel))
set_option maxHeartbeats 4000000 in
set_option maxRecDepth 100000 in
theorem c_Plan_reset {l : Launch} {D : va_G} {cA : Nat → ClassId} {ad : Nat → Nat} {sh : zw_Sh} {n : Nat} (hn : n ≤ 16) (hs : ∀ (k : Nat) (q : zw_Sp), shX n k = some q → sh k = some q) (z : Nat) (mi : zw_I) (ml : zw_L) (e0 : mi 1 0 = nI n) :
    zc_M l D cA Y_Plan_reset 0 0 0 ad sh sh z [.ref (ad 1)] mi ml none ((p_reset n (n + 1) 0 mi ml).1) ((p_reset n (n + 1) 0 mi ml).2) z := by
  refine zc_enter (own := R_Plan) (by decide) rfl (Nat.le_of_ble_eq_true rfl) ?_
  intro p e s m below meth c X hr hlocks hnm hB ls hl
  have X : zw_C D cA R_Plan prog_7_method_2_code 2 p m c s := X
  have hr : meth.sig.returnType = none := hr
  have hx := X.1
  have hb := X.2.1
  have hl : lv_has ls 2 [(0, .ref (ad 1))] := hl
  have loop : ∀ (f i : Nat) (mi : zw_I) (ml : zw_L) (H : Heap) (locs : List Loc) (ls : Array Slot), i + f = n + 1 → i ≤ n → mi 1 0 = nI n → zw_B D cA ad sh (zw_A ad sh z) s.heap mi ml z H locs → lv_has ls 2 [(1, .int (nI i)), (0, .ref (ad 1))] →
      zc_W l D cA ad sh sh z [.ref (ad 1)] 0 0 0 none ((p_reset n f (nI i) mi ml).1) ((p_reset n f (nI i) mi ml).2) z p e s m below meth c H locs 0 0 (F0 m 2 ls []) := by
    intro f
    induction f with
    | zero =>
      intro i  mi ml H locs ls hi h2 e0 hB hl
      omega
    | succ f ih =>
      intro i  mi ml H locs ls hi h2 e0 hB hl
      rw [p_reset]
      refine lv_iload_n hx hb d_Plan_reset_2 rfl (lv_at hl 0 rfl) ?_
      refine lv_aload_n hx hb d_Plan_reset_3 rfl (lv_at hl 1 rfl) ?_
      refine zw_getI X hB fl_Plan_9 1 (hs 1 _ rfl) rfl d_Plan_reset_4 ?_
      refine lv_icmp_ge (tgt := 48) hx hb d_Plan_reset_7 (by decide) (fun c_7 => ?_) (fun c_7 => ?_)
      · rw [e0] at c_7
        rw [if_pos c_7]
        refine lv_aload_n hx hb d_Plan_reset_48 rfl (lv_at hl 1 rfl) ?_
        refine zw_getR X hB fl_Plan_41 1 (hs 1 _ rfl) rfl d_Plan_reset_49 ?_
        refine lv_iconst (v := 0) hx hb d_Plan_reset_52 (by decide) ?_
        refine zw_putI X hB fp_Plan_51 (fun h => by cases h) 3 (hs 3 _ rfl) rfl d_Plan_reset_53 (fun H locs hB => ?_)
        obtain ⟨mi_1, emi_1⟩ : ∃ y, y = zw_up mi 3 5 0 := ⟨_, rfl⟩
        rw [← emi_1] at hB
        refine lv_aload_n hx hb d_Plan_reset_56 rfl (lv_at hl 1 rfl) ?_
        refine lv_iconst (v := (-1)) hx hb d_Plan_reset_57 (by decide) ?_
        refine zw_putI X hB fp_Plan_53 (fun h => by cases h) 1 (hs 1 _ rfl) rfl d_Plan_reset_58 (fun H locs hB => ?_)
        obtain ⟨mi_2, emi_2⟩ : ∃ y, y = zw_up mi_1 1 7 (-1) := ⟨_, rfl⟩
        rw [← emi_2] at hB
        exact zc_vret X hr hlocks hB (by subst emi_2; subst emi_1; rfl) (by subst emi_2; subst emi_1; rfl) (by subst emi_2; subst emi_1; rfl) d_Plan_reset_61
      · rw [e0] at c_7
        rw [if_neg c_7]
        have hlt : i < n := zn_lt (by omega) c_7
        have hin : vp_in (nI i) n := vp_in_nI hlt (by omega)
        refine lv_aload_n hx hb d_Plan_reset_10 rfl (lv_at hl 1 rfl) ?_
        refine zw_getR X hB fl_Plan_18 1 (hs 1 _ rfl) rfl d_Plan_reset_11 ?_
        refine lv_iload_n hx hb d_Plan_reset_14 rfl (lv_at hl 0 rfl) ?_
        refine lv_iconst (v := 1) hx hb d_Plan_reset_15 (by decide) ?_
        refine zw_iast X hB 7 (hs 7 _ rfl) hin d_Plan_reset_16 (fun H locs hB => ?_)
        obtain ⟨mi_3, emi_3⟩ : ∃ y, y = zw_up mi 7 (nI i).toNatClampNeg 1 := ⟨_, rfl⟩
        rw [← emi_3] at hB
        refine lv_aload_n hx hb d_Plan_reset_17 rfl (lv_at hl 1 rfl) ?_
        refine zw_getR X hB fl_Plan_22 1 (hs 1 _ rfl) rfl d_Plan_reset_18 ?_
        refine lv_iload_n hx hb d_Plan_reset_21 rfl (lv_at hl 0 rfl) ?_
        refine lv_iconst (v := 1) hx hb d_Plan_reset_22 (by decide) ?_
        refine zw_iast X hB 8 (hs 8 _ rfl) hin d_Plan_reset_23 (fun H locs hB => ?_)
        obtain ⟨mi_4, emi_4⟩ : ∃ y, y = zw_up mi_3 8 (nI i).toNatClampNeg 1 := ⟨_, rfl⟩
        rw [← emi_4] at hB
        refine lv_aload_n hx hb d_Plan_reset_24 rfl (lv_at hl 1 rfl) ?_
        refine zw_getR X hB fl_Plan_25 1 (hs 1 _ rfl) rfl d_Plan_reset_25 ?_
        refine lv_iload_n hx hb d_Plan_reset_28 rfl (lv_at hl 0 rfl) ?_
        refine lv_iload_n hx hb d_Plan_reset_29 rfl (lv_at hl 0 rfl) ?_
        refine lv_i2l (v := (nI i).toInt64) hx hb d_Plan_reset_30 rfl ?_
        refine zw_last X hB 9 (hs 9 _ rfl) hin d_Plan_reset_31 (fun H locs hB => ?_)
        obtain ⟨ml_5, eml_5⟩ : ∃ y, y = zw_up ml 9 (nI i).toNatClampNeg ((nI i).toInt64) := ⟨_, rfl⟩
        rw [← eml_5] at hB
        refine lv_aload_n hx hb d_Plan_reset_32 rfl (lv_at hl 1 rfl) ?_
        refine zw_getR X hB fl_Plan_34 1 (hs 1 _ rfl) rfl d_Plan_reset_33 ?_
        refine zw_getR X hB fl_Plan_48 2 (hs 2 _ rfl) rfl d_Plan_reset_36 ?_
        refine lv_iload_n hx hb d_Plan_reset_39 rfl (lv_at hl 0 rfl) ?_
        refine lv_iconst (v := 0) hx hb d_Plan_reset_40 (by decide) ?_
        refine zw_iast X hB 10 (hs 10 _ rfl) hin d_Plan_reset_41 (fun H locs hB => ?_)
        obtain ⟨mi_6, emi_6⟩ : ∃ y, y = zw_up mi_4 10 (nI i).toNatClampNeg 0 := ⟨_, rfl⟩
        rw [← emi_6] at hB
        refine lv_iinc (v := nI (i + 1)) (lv' := [(1, .int (nI (i + 1))), (0, .ref (ad 1))]) hx hb d_Plan_reset_42 hl (k := 0) rfl (nI_1 i) (by decide) rfl (fun ls hl => ?_)
        refine lv_goto (tgt := 2) hx hb d_Plan_reset_45 (by decide) ?_
        subst emi_6
        subst eml_5
        subst emi_4
        subst emi_3
        rw [nI_1 i]
        exact ih (i + 1)  _ _ H locs ls (by omega) (by omega) (by simpa [zw_up] using e0) hB (lv_sub hl [0, 1] rfl)
  refine lv_iconst (v := 0) hx hb d_Plan_reset_0 (by decide) ?_
  refine lv_istore_n (lv' := [(1, .int 0), (0, .ref (ad 1))]) hx hb d_Plan_reset_1 rfl hl (by decide) rfl (fun ls hl => ?_)
  exact loop (n + 1) 0 _ _ _ _ ls (by omega) (by omega) e0 hB (lv_sub hl [0, 1] rfl)

set_option maxHeartbeats 4000000 in
set_option maxRecDepth 100000 in
theorem c_Course_isFinished {l : Launch} {D : va_G} {cA : Nat → ClassId} {ad : Nat → Nat} {sh : zw_Sh} {n : Nat} (hn : n ≤ 16) (hs : ∀ (k : Nat) (q : zw_Sp), shX n k = some q → sh k = some q) (z : Nat) (mi : zw_I) (ml : zw_L) (x : Int32) (h1 : vp_in x n) :
    zc_M l D cA Y_Course_isFinished 0 0 0 ad sh sh z [.ref (ad 5), .int x] mi ml (some (.int (p_isFin mi x))) mi ml z := by
  refine zc_enter (own := R_Course) (by decide) rfl (Nat.le_of_ble_eq_true rfl) ?_
  intro p e s m below meth c X hr hlocks hnm hB ls hl
  have X : zw_C D cA R_Course prog_2_method_4_code 2 p m c s := X
  have hr : meth.sig.returnType = (some FieldType.boolean) := hr
  have hx := X.1
  have hb := X.2.1
  have hl : lv_has ls 2 [(0, .ref (ad 5)), (1, .int x)] := hl
  unfold p_isFin
  refine lv_aload_n hx hb d_Course_isFinished_0 rfl (lv_at hl 0 rfl) ?_
  refine zw_getR X hB fl_Course_37 5 (hs 5 _ rfl) rfl d_Course_isFinished_1 ?_
  refine lv_iload_n hx hb d_Course_isFinished_4 rfl (lv_at hl 1 rfl) ?_
  refine zw_iald X hB 23 (hs 23 _ rfl) h1 d_Course_isFinished_5 ?_
  refine lv_aload_n hx hb d_Course_isFinished_6 rfl (lv_at hl 0 rfl) ?_
  refine zw_getR X hB fl_Course_9 5 (hs 5 _ rfl) rfl d_Course_isFinished_7 ?_
  refine zw_getR X hB fl_Course_116 1 (hs 1 _ rfl) rfl d_Course_isFinished_10 ?_
  refine lv_iload_n hx hb d_Course_isFinished_13 rfl (lv_at hl 1 rfl) ?_
  refine zw_iald X hB 7 (hs 7 _ rfl) h1 d_Course_isFinished_14 ?_
  refine lv_icmp_lt (tgt := 22) hx hb d_Course_isFinished_15 (by decide) (fun c_15 => ?_) (fun c_15 => ?_)
  · rw [if_pos c_15]
    refine lv_iconst (v := 0) hx hb d_Course_isFinished_22 (by decide) ?_
    exact zc_zret X hr hlocks hB (by rfl) (by rfl) (by rfl) (by rfl) d_Course_isFinished_23
  · rw [if_neg c_15]
    refine lv_iconst (v := 1) hx hb d_Course_isFinished_18 (by decide) ?_
    refine lv_goto (tgt := 23) hx hb d_Course_isFinished_19 (by decide) ?_
    exact zc_zret X hr hlocks hB (by rfl) (by rfl) (by rfl) (by rfl) d_Course_isFinished_23

set_option maxHeartbeats 4000000 in
set_option maxRecDepth 100000 in
theorem c_Course_canTake {l : Launch} {D : va_G} {cA : Nat → ClassId} {ad : Nat → Nat} {sh : zw_Sh} {n : Nat} (hn : n ≤ 16) (hs : ∀ (k : Nat) (q : zw_Sp), shX n k = some q → sh k = some q) (z : Nat) (mi : zw_I) (ml : zw_L) (hI : zi n mi) :
    zc_M l D cA Y_Course_canTake 1 0 0 ad sh sh z [.ref (ad 5)] mi ml (some (.int (p_canTake mi))) mi ml z := by
  refine zc_enter (own := R_Course) (by decide) rfl (Nat.le_of_ble_eq_true rfl) ?_
  intro p e s m below meth c X hr hlocks hnm hB ls hl
  have X : zw_C D cA R_Course prog_2_method_7_code 2 p m c s := X
  have hr : meth.sig.returnType = (some FieldType.boolean) := hr
  have hx := X.1
  have hb := X.2.1
  have hl : lv_has ls 2 [(0, .ref (ad 5))] := hl
  unfold p_canTake
  refine lv_aload_n hx hb d_Course_canTake_0 rfl (lv_at hl 0 rfl) ?_
  refine zw_getR X hB fl_Course_26 5 (hs 5 _ rfl) rfl d_Course_canTake_1 ?_
  refine zw_callVr X hB mv_Course_145 4 (hs 4 _ rfl) rfl (c_Line_first hn hs z mi ml hI.2.2.2.1.1) rfl hl.1 ⟨Nat.le_of_ble_eq_true rfl, Nat.le_of_ble_eq_true rfl⟩ rfl (Nat.le_of_ble_eq_true rfl) ⟨Nat.le_of_ble_eq_true rfl, Nat.le_of_ble_eq_true rfl⟩ d_Course_canTake_4 (fun H locs hB => ?_)
  refine lv_istore_n (lv' := [(1, .int (p_first mi)), (0, .ref (ad 5))]) hx hb d_Course_canTake_7 rfl hl (by decide) rfl (fun ls hl => ?_)
  refine lv_iload_n hx hb d_Course_canTake_8 rfl (lv_at hl 0 rfl) ?_
  refine lv_iconst (v := (-1)) hx hb d_Course_canTake_9 (by decide) ?_
  refine lv_icmp_eq (tgt := 41) hx hb d_Course_canTake_10 (by decide) (fun c_10 => ?_) (fun c_10 => ?_)
  · rw [if_pos c_10]
    refine lv_iconst (v := 0) hx hb d_Course_canTake_41 (by decide) ?_
    exact zc_zret X hr hlocks hB (by rfl) (by rfl) (by rfl) (by rfl) d_Course_canTake_42
  · rw [if_neg c_10]
    refine lv_aload_n hx hb d_Course_canTake_13 rfl (lv_at hl 1 rfl) ?_
    refine zw_getI X hB fl_Course_79 5 (hs 5 _ rfl) rfl d_Course_canTake_14 ?_
    refine lv_aload_n hx hb d_Course_canTake_17 rfl (lv_at hl 1 rfl) ?_
    refine zw_getR X hB fl_Course_9 5 (hs 5 _ rfl) rfl d_Course_canTake_18 ?_
    refine zw_getR X hB fl_Course_148 1 (hs 1 _ rfl) rfl d_Course_canTake_21 ?_
    refine lv_iload_n hx hb d_Course_canTake_24 rfl (lv_at hl 0 rfl) ?_
    refine zw_iald X hB 8 (hs 8 _ rfl) (zi_firstN hI c_10) d_Course_canTake_25 ?_
    refine lv_iadd hx hb d_Course_canTake_26 ?_
    refine lv_aload_n hx hb d_Course_canTake_27 rfl (lv_at hl 1 rfl) ?_
    refine zw_getR X hB fl_Course_9 5 (hs 5 _ rfl) rfl d_Course_canTake_28 ?_
    refine zw_getI X hB fl_Course_151 1 (hs 1 _ rfl) rfl d_Course_canTake_31 ?_
    refine lv_icmp_gt (tgt := 41) hx hb d_Course_canTake_34 (by decide) (fun c_34 => ?_) (fun c_34 => ?_)
    · rw [if_pos c_34]
      refine lv_iconst (v := 0) hx hb d_Course_canTake_41 (by decide) ?_
      exact zc_zret X hr hlocks hB (by rfl) (by rfl) (by rfl) (by rfl) d_Course_canTake_42
    · rw [if_neg c_34]
      refine lv_iconst (v := 1) hx hb d_Course_canTake_37 (by decide) ?_
      refine lv_goto (tgt := 42) hx hb d_Course_canTake_38 (by decide) ?_
      exact zc_zret X hr hlocks hB (by rfl) (by rfl) (by rfl) (by rfl) d_Course_canTake_42

set_option maxHeartbeats 4000000 in
set_option maxRecDepth 100000 in
theorem c_Course_shareToWaitFor {l : Launch} {D : va_G} {cA : Nat → ClassId} {ad : Nat → Nat} {sh : zw_Sh} {n : Nat} (hn : n ≤ 16) (hs : ∀ (k : Nat) (q : zw_Sp), shX n k = some q → sh k = some q) (z : Nat) (mi : zw_I) (ml : zw_L) (x : Int32) (hI : zi n mi) (h1 : vp_in x n) :
    zc_M l D cA Y_Course_shareToWaitFor 1 0 0 ad sh sh z [.ref (ad 5), .int x] mi ml (some (.int (p_wait mi x))) mi ml z := by
  refine zc_enter (own := R_Course) (by decide) rfl (Nat.le_of_ble_eq_true rfl) ?_
  intro p e s m below meth c X hr hlocks hnm hB ls hl
  have X : zw_C D cA R_Course prog_2_method_8_code 2 p m c s := X
  have hr : meth.sig.returnType = (some FieldType.int) := hr
  have hx := X.1
  have hb := X.2.1
  have hl : lv_has ls 2 [(0, .ref (ad 5)), (1, .int x)] := hl
  obtain ⟨⟨w, hw, ew⟩, hom⟩ := hI.2.1 _ (vlt h1)
  refine lv_aload_n hx hb d_Course_shareToWaitFor_0 rfl (lv_at hl 0 rfl) ?_
  refine zw_getR X hB fl_Course_9 5 (hs 5 _ rfl) rfl d_Course_shareToWaitFor_1 ?_
  refine zw_getR X hB fl_Course_154 1 (hs 1 _ rfl) rfl d_Course_shareToWaitFor_4 ?_
  refine lv_iload_n hx hb d_Course_shareToWaitFor_7 rfl (lv_at hl 1 rfl) ?_
  refine lv_aload_n hx hb d_Course_shareToWaitFor_8 rfl (lv_at hl 0 rfl) ?_
  refine zw_getR X hB fl_Course_37 5 (hs 5 _ rfl) rfl d_Course_shareToWaitFor_9 ?_
  refine lv_iload_n hx hb d_Course_shareToWaitFor_12 rfl (lv_at hl 1 rfl) ?_
  refine zw_iald X hB 23 (hs 23 _ rfl) h1 d_Course_shareToWaitFor_13 ?_
  refine lv_aload_n hx hb d_Course_shareToWaitFor_14 rfl (lv_at hl 0 rfl) ?_
  refine zw_getR X hB fl_Course_37 5 (hs 5 _ rfl) rfl d_Course_shareToWaitFor_15 ?_
  refine zw_callVr X hB mv_Course_158 2 (hs 2 _ rfl) rfl (c_Needs_firstUnmet hn hs z mi ml x (mi 23 x.toNatClampNeg) h1 w hw ew (fun k hk => (hom k hk).1)) rfl hl.1 ⟨Nat.le_of_ble_eq_true rfl, Nat.le_of_ble_eq_true rfl⟩ rfl (Nat.le_of_ble_eq_true rfl) ⟨Nat.le_of_ble_eq_true rfl, Nat.le_of_ble_eq_true rfl⟩ d_Course_shareToWaitFor_18 (fun H locs hB => ?_)
  exact zc_iret X hr hlocks hB (by rfl) (by rfl) (by rfl) d_Course_shareToWaitFor_21

set_option maxHeartbeats 4000000 in
set_option maxRecDepth 100000 in
theorem c_Course_isStuck {l : Launch} {D : va_G} {cA : Nat → ClassId} {ad : Nat → Nat} {sh : zw_Sh} {n : Nat} (hn : n ≤ 16) (hs : ∀ (k : Nat) (q : zw_Sp), shX n k = some q → sh k = some q) (z : Nat) (mi : zw_I) (ml : zw_L) (hI : zi n mi) :
    zc_M l D cA Y_Course_isStuck 2 0 0 ad sh sh z [.ref (ad 5)] mi ml (some (.int (p_stuck mi 17 0))) mi ml z := by
  refine zc_enter (own := R_Course) (by decide) rfl (Nat.le_of_ble_eq_true rfl) ?_
  intro p e s m below meth c X hr hlocks hnm hB ls hl
  have X : zw_C D cA R_Course prog_2_method_6_code 3 p m c s := X
  have hr : meth.sig.returnType = (some FieldType.boolean) := hr
  have hx := X.1
  have hb := X.2.1
  have hl : lv_has ls 3 [(0, .ref (ad 5))] := hl
  have loop : ∀ (f i : Nat)  (H : Heap) (locs : List Loc) (ls : Array Slot), i + f = 17 → nI i ≤ mi 6 2 → zw_B D cA ad sh (zw_A ad sh z) s.heap mi ml z H locs → lv_has ls 3 [(1, .int (nI i)), (0, .ref (ad 5))] →
      zc_W l D cA ad sh sh z [.ref (ad 5)] 2 0 0 (some (.int (p_stuck mi f (nI i)))) mi ml z p e s m below meth c H locs 0 0 (F0 m 2 ls []) := by
    intro f
    induction f with
    | zero =>
      intro i   H locs ls hi h2 hB hl
      obtain ⟨w, hw, ew⟩ := hI.2.2.2.2.1
      rw [ew] at h2
      have := zn_le (by omega) (by omega) h2
      omega
    | succ f ih =>
      intro i   H locs ls hi h2 hB hl
      rw [p_stuck]
      refine lv_iload_n hx hb d_Course_isStuck_2 rfl (lv_at hl 0 rfl) ?_
      refine lv_aload_n hx hb d_Course_isStuck_3 rfl (lv_at hl 1 rfl) ?_
      refine zw_getR X hB fl_Course_33 5 (hs 5 _ rfl) rfl d_Course_isStuck_4 ?_
      refine zw_getI X hB fl_Course_125 6 (hs 6 _ rfl) rfl d_Course_isStuck_7 ?_
      refine lv_icmp_ge (tgt := 63) hx hb d_Course_isStuck_10 (by decide) (fun c_10 => ?_) (fun c_10 => ?_)
      · rw [if_pos c_10]
        refine lv_iconst (v := 1) hx hb d_Course_isStuck_63 (by decide) ?_
        exact zc_zret X hr hlocks hB (by rfl) (by rfl) (by rfl) (by rfl) d_Course_isStuck_64
      · rw [if_neg c_10]
        obtain ⟨w, hw, ew⟩ := hI.2.2.2.2.1
        have hlt : i < w := zn_lt (by omega) (by rw [← ew]; exact c_10)
        have hin : vp_in (nI i) 16 := vp_in_nI (by omega) (by decide)
        have hlv := hI.2.2.2.2.2.1 _ (vlt hin)
        have hhd := hI.2.2.2.2.2.2 _ (vlt hlv)
        refine lv_aload_n hx hb d_Course_isStuck_13 rfl (lv_at hl 1 rfl) ?_
        refine zw_getR X hB fl_Course_33 5 (hs 5 _ rfl) rfl d_Course_isStuck_14 ?_
        refine zw_getR X hB fl_Course_132 6 (hs 6 _ rfl) rfl d_Course_isStuck_17 ?_
        refine lv_aload_n hx hb d_Course_isStuck_20 rfl (lv_at hl 1 rfl) ?_
        refine zw_getR X hB fl_Course_33 5 (hs 5 _ rfl) rfl d_Course_isStuck_21 ?_
        refine zw_getR X hB fl_Course_135 6 (hs 6 _ rfl) rfl d_Course_isStuck_24 ?_
        refine lv_iload_n hx hb d_Course_isStuck_27 rfl (lv_at hl 0 rfl) ?_
        refine zw_iald X hB 28 (hs 28 _ rfl) hin d_Course_isStuck_28 ?_
        refine zw_iald X hB 29 (hs 29 _ rfl) hlv d_Course_isStuck_29 ?_
        refine lv_istore_n (lv' := [(2, .int (mi 29 (mi 28 (nI i).toNatClampNeg).toNatClampNeg)), (1, .int (nI i)), (0, .ref (ad 5))]) hx hb d_Course_isStuck_30 rfl hl (by decide) rfl (fun ls hl => ?_)
        refine lv_iload_n hx hb d_Course_isStuck_31 rfl (lv_at hl 0 rfl) ?_
        refine lv_iconst (v := (-1)) hx hb d_Course_isStuck_32 (by decide) ?_
        refine lv_icmp_ne (tgt := 46) hx hb d_Course_isStuck_33 (by decide) (fun c_33 => ?_) (fun c_33 => ?_)
        · rw [if_neg c_33]
          refine lv_aload_n hx hb d_Course_isStuck_46 rfl (lv_at hl 2 rfl) ?_
          refine lv_iload_n hx hb d_Course_isStuck_47 rfl (lv_at hl 0 rfl) ?_
          refine zw_callVr X hB mv_Course_141 5 (hs 5 _ rfl) rfl (c_Course_shareToWaitFor hn hs z mi ml (mi 29 (mi 28 (nI i).toNatClampNeg).toNatClampNeg) hI (hhd.elim (fun e => absurd e c_33) id)) rfl hl.1 ⟨Nat.le_of_ble_eq_true rfl, Nat.le_of_ble_eq_true rfl⟩ rfl (Nat.le_of_ble_eq_true rfl) ⟨Nat.le_of_ble_eq_true rfl, Nat.le_of_ble_eq_true rfl⟩ d_Course_isStuck_48 (fun H locs hB => ?_)
          refine lv_iconst (v := (-1)) hx hb d_Course_isStuck_51 (by decide) ?_
          refine lv_icmp_ne (tgt := 57) hx hb d_Course_isStuck_52 (by decide) (fun c_52 => ?_) (fun c_52 => ?_)
          · rw [if_neg c_52]
            refine lv_iinc (v := nI (i + 1)) (lv' := [(1, .int (nI (i + 1))), (2, .int (mi 29 (mi 28 (nI i).toNatClampNeg).toNatClampNeg)), (0, .ref (ad 5))]) hx hb d_Course_isStuck_57 hl (k := 1) rfl (nI_1 i) (by decide) rfl (fun ls hl => ?_)
            refine lv_goto (tgt := 2) hx hb d_Course_isStuck_60 (by decide) ?_
            rw [nI_1 i]
            exact ih (i + 1)   H locs ls (by omega) (by rw [ew]; exact nI_le (by omega) (by omega)) hB (lv_sub hl [0, 2] rfl)
          · rw [if_pos c_52]
            refine lv_iconst (v := 0) hx hb d_Course_isStuck_55 (by decide) ?_
            exact zc_zret X hr hlocks hB (by rfl) (by rfl) (by rfl) (by rfl) d_Course_isStuck_56
        · rw [if_pos c_33]
          refine lv_aload_n hx hb d_Course_isStuck_36 rfl (lv_at hl 2 rfl) ?_
          refine zw_callVr X hB mv_Course_138 5 (hs 5 _ rfl) rfl (c_Course_canTake hn hs z mi ml hI) rfl hl.1 ⟨Nat.le_of_ble_eq_true rfl, Nat.le_of_ble_eq_true rfl⟩ rfl (Nat.le_of_ble_eq_true rfl) ⟨Nat.le_of_ble_eq_true rfl, Nat.le_of_ble_eq_true rfl⟩ d_Course_isStuck_37 (fun H locs hB => ?_)
          refine lv_if_eq (tgt := 57) hx hb d_Course_isStuck_40 (by decide) (fun c_40 => ?_) (fun c_40 => ?_)
          · rw [if_pos c_40]
            refine lv_iinc (v := nI (i + 1)) (lv' := [(1, .int (nI (i + 1))), (2, .int (mi 29 (mi 28 (nI i).toNatClampNeg).toNatClampNeg)), (0, .ref (ad 5))]) hx hb d_Course_isStuck_57 hl (k := 1) rfl (nI_1 i) (by decide) rfl (fun ls hl => ?_)
            refine lv_goto (tgt := 2) hx hb d_Course_isStuck_60 (by decide) ?_
            rw [nI_1 i]
            exact ih (i + 1)   H locs ls (by omega) (by rw [ew]; exact nI_le (by omega) (by omega)) hB (lv_sub hl [0, 2] rfl)
          · rw [if_neg c_40]
            refine lv_goto (tgt := 55) hx hb d_Course_isStuck_43 (by decide) ?_
            refine lv_iconst (v := 0) hx hb d_Course_isStuck_55 (by decide) ?_
            exact zc_zret X hr hlocks hB (by rfl) (by rfl) (by rfl) (by rfl) d_Course_isStuck_56
  refine lv_iconst (v := 0) hx hb d_Course_isStuck_0 (by decide) ?_
  refine lv_istore_n (lv' := [(1, .int 0), (0, .ref (ad 5))]) hx hb d_Course_isStuck_1 rfl hl (by decide) rfl (fun ls hl => ?_)
  exact loop 17 0  _ _ ls rfl (by obtain ⟨w, hw, ew⟩ := hI.2.2.2.2.1; rw [ew]; exact nI_le (by omega) (by omega)) hB (lv_sub hl [0, 1] rfl)

set_option maxHeartbeats 4000000 in
set_option maxRecDepth 100000 in
theorem c_Course_endByState {l : Launch} {D : va_G} {cA : Nat → ClassId} {ad : Nat → Nat} {sh : zw_Sh} {n : Nat} (hn : n ≤ 16) (hs : ∀ (k : Nat) (q : zw_Sp), shX n k = some q → sh k = some q) (z : Nat) (mi : zw_I) (ml : zw_L) (hI : zi n mi) :
    zc_M l D cA Y_Course_endByState 3 0 0 ad sh sh z [.ref (ad 5)] mi ml (some (.int (p_end mi))) mi ml z := by
  refine zc_enter (own := R_Course) (by decide) rfl (Nat.le_of_ble_eq_true rfl) ?_
  intro p e s m below meth c X hr hlocks hnm hB ls hl
  have X : zw_C D cA R_Course prog_2_method_5_code 1 p m c s := X
  have hr : meth.sig.returnType = (some FieldType.int) := hr
  have hx := X.1
  have hb := X.2.1
  have hl : lv_has ls 1 [(0, .ref (ad 5))] := hl
  unfold p_end
  refine lv_aload_n hx hb d_Course_endByState_0 rfl (lv_at hl 0 rfl) ?_
  refine zw_getI X hB fl_Course_76 5 (hs 5 _ rfl) rfl d_Course_endByState_1 ?_
  refine lv_aload_n hx hb d_Course_endByState_4 rfl (lv_at hl 0 rfl) ?_
  refine zw_getR X hB fl_Course_9 5 (hs 5 _ rfl) rfl d_Course_endByState_5 ?_
  refine zw_getI X hB fl_Course_17 1 (hs 1 _ rfl) rfl d_Course_endByState_8 ?_
  refine lv_icmp_lt (tgt := 16) hx hb d_Course_endByState_11 (by decide) (fun c_11 => ?_) (fun c_11 => ?_)
  · rw [if_pos c_11]
    refine lv_aload_n hx hb d_Course_endByState_16 rfl (lv_at hl 0 rfl) ?_
    refine zw_getR X hB fl_Course_9 5 (hs 5 _ rfl) rfl d_Course_endByState_17 ?_
    refine zw_getI X hB fl_Course_119 1 (hs 1 _ rfl) rfl d_Course_endByState_20 ?_
    refine lv_iconst (v := (-1)) hx hb d_Course_endByState_23 (by decide) ?_
    refine lv_icmp_eq (tgt := 43) hx hb d_Course_endByState_24 (by decide) (fun c_24 => ?_) (fun c_24 => ?_)
    · rw [if_pos c_24]
      refine lv_aload_n hx hb d_Course_endByState_43 rfl (lv_at hl 0 rfl) ?_
      refine zw_getR X hB fl_Course_33 5 (hs 5 _ rfl) rfl d_Course_endByState_44 ?_
      refine zw_getI X hB fl_Course_125 6 (hs 6 _ rfl) rfl d_Course_endByState_47 ?_
      refine lv_if_ne (tgt := 55) hx hb d_Course_endByState_50 (by decide) (fun c_50 => ?_) (fun c_50 => ?_)
      · rw [if_neg c_50]
        refine lv_aload_n hx hb d_Course_endByState_55 rfl (lv_at hl 0 rfl) ?_
        refine zw_callVr X hB mv_Course_128 5 (hs 5 _ rfl) rfl (c_Course_isStuck hn hs z mi ml hI) rfl hl.1 ⟨Nat.le_of_ble_eq_true rfl, Nat.le_of_ble_eq_true rfl⟩ rfl (Nat.le_of_ble_eq_true rfl) ⟨Nat.le_of_ble_eq_true rfl, Nat.le_of_ble_eq_true rfl⟩ d_Course_endByState_56 (fun H locs hB => ?_)
        refine lv_if_eq (tgt := 67) hx hb d_Course_endByState_59 (by decide) (fun c_59 => ?_) (fun c_59 => ?_)
        · rw [if_pos c_59]
          refine lv_iconst (v := 2) hx hb d_Course_endByState_67 (by decide) ?_
          exact zc_iret X hr hlocks hB (by rfl) (by rfl) (by rfl) d_Course_endByState_68
        · rw [if_neg c_59]
          refine lv_bipush (v := (-2)) hx hb d_Course_endByState_62 (by decide) ?_
          refine lv_goto (tgt := 68) hx hb d_Course_endByState_64 (by decide) ?_
          exact zc_iret X hr hlocks hB (by rfl) (by rfl) (by rfl) d_Course_endByState_68
      · rw [if_pos c_50]
        refine lv_iconst (v := (-1)) hx hb d_Course_endByState_53 (by decide) ?_
        exact zc_iret X hr hlocks hB (by rfl) (by rfl) (by rfl) d_Course_endByState_54
    · rw [if_neg c_24]
      refine lv_aload_n hx hb d_Course_endByState_27 rfl (lv_at hl 0 rfl) ?_
      refine lv_aload_n hx hb d_Course_endByState_28 rfl (lv_at hl 0 rfl) ?_
      refine zw_getR X hB fl_Course_9 5 (hs 5 _ rfl) rfl d_Course_endByState_29 ?_
      refine zw_getI X hB fl_Course_119 1 (hs 1 _ rfl) rfl d_Course_endByState_32 ?_
      refine zw_callVr X hB mv_Course_122 5 (hs 5 _ rfl) rfl (c_Course_isFinished hn hs z mi ml (mi 1 7) (hI.1.2.2.2.1.elim (fun e => absurd e c_24) id)) rfl hl.1 ⟨Nat.le_of_ble_eq_true rfl, Nat.le_of_ble_eq_true rfl⟩ rfl (Nat.le_of_ble_eq_true rfl) ⟨Nat.le_of_ble_eq_true rfl, Nat.le_of_ble_eq_true rfl⟩ d_Course_endByState_35 (fun H locs hB => ?_)
      refine lv_if_eq (tgt := 43) hx hb d_Course_endByState_38 (by decide) (fun c_38 => ?_) (fun c_38 => ?_)
      · rw [if_pos c_38]
        refine lv_aload_n hx hb d_Course_endByState_43 rfl (lv_at hl 0 rfl) ?_
        refine zw_getR X hB fl_Course_33 5 (hs 5 _ rfl) rfl d_Course_endByState_44 ?_
        refine zw_getI X hB fl_Course_125 6 (hs 6 _ rfl) rfl d_Course_endByState_47 ?_
        refine lv_if_ne (tgt := 55) hx hb d_Course_endByState_50 (by decide) (fun c_50 => ?_) (fun c_50 => ?_)
        · rw [if_neg c_50]
          refine lv_aload_n hx hb d_Course_endByState_55 rfl (lv_at hl 0 rfl) ?_
          refine zw_callVr X hB mv_Course_128 5 (hs 5 _ rfl) rfl (c_Course_isStuck hn hs z mi ml hI) rfl hl.1 ⟨Nat.le_of_ble_eq_true rfl, Nat.le_of_ble_eq_true rfl⟩ rfl (Nat.le_of_ble_eq_true rfl) ⟨Nat.le_of_ble_eq_true rfl, Nat.le_of_ble_eq_true rfl⟩ d_Course_endByState_56 (fun H locs hB => ?_)
          refine lv_if_eq (tgt := 67) hx hb d_Course_endByState_59 (by decide) (fun c_59 => ?_) (fun c_59 => ?_)
          · rw [if_pos c_59]
            refine lv_iconst (v := 2) hx hb d_Course_endByState_67 (by decide) ?_
            exact zc_iret X hr hlocks hB (by rfl) (by rfl) (by rfl) d_Course_endByState_68
          · rw [if_neg c_59]
            refine lv_bipush (v := (-2)) hx hb d_Course_endByState_62 (by decide) ?_
            refine lv_goto (tgt := 68) hx hb d_Course_endByState_64 (by decide) ?_
            exact zc_iret X hr hlocks hB (by rfl) (by rfl) (by rfl) d_Course_endByState_68
        · rw [if_pos c_50]
          refine lv_iconst (v := (-1)) hx hb d_Course_endByState_53 (by decide) ?_
          exact zc_iret X hr hlocks hB (by rfl) (by rfl) (by rfl) d_Course_endByState_54
      · rw [if_neg c_38]
        refine lv_iconst (v := 1) hx hb d_Course_endByState_41 (by decide) ?_
        exact zc_iret X hr hlocks hB (by rfl) (by rfl) (by rfl) d_Course_endByState_42
  · rw [if_neg c_11]
    refine lv_iconst (v := 0) hx hb d_Course_endByState_14 (by decide) ?_
    exact zc_iret X hr hlocks hB (by rfl) (by rfl) (by rfl) d_Course_endByState_15

set_option maxHeartbeats 4000000 in
set_option maxRecDepth 100000 in
theorem c_Course_take {l : Launch} {D : va_G} {cA : Nat → ClassId} {ad : Nat → Nat} {sh : zw_Sh} {n : Nat} (hn : n ≤ 16) (hs : ∀ (k : Nat) (q : zw_Sp), shX n k = some q → sh k = some q) (z : Nat) (mi : zw_I) (ml : zw_L) (wk : Int32) (hI : zi n mi) (hw : vp_in wk 16) :
    zc_M l D cA Y_Course_take 2 0 0 ad sh sh z [.ref (ad 5), .int wk] mi ml (some (.int ((p_take n wk mi).1))) ((p_take n wk mi).2) ml z := by
  refine zc_enter (own := R_Course) (by decide) rfl (Nat.le_of_ble_eq_true rfl) ?_
  intro p e s m below meth c X hr hlocks hnm hB ls hl
  have X : zw_C D cA R_Course prog_2_method_10_code 3 p m c s := X
  have hr : meth.sig.returnType = (some FieldType.boolean) := hr
  have hx := X.1
  have hb := X.2.1
  have hl : lv_has ls 3 [(0, .ref (ad 5)), (1, .int wk)] := hl
  unfold p_take
  refine lv_aload_n hx hb d_Course_take_0 rfl (lv_at hl 0 rfl) ?_
  refine zw_callVr X hB mv_Course_138 5 (hs 5 _ rfl) rfl (c_Course_canTake hn hs z mi ml hI) rfl hl.1 ⟨Nat.le_of_ble_eq_true rfl, Nat.le_of_ble_eq_true rfl⟩ rfl (Nat.le_of_ble_eq_true rfl) ⟨Nat.le_of_ble_eq_true rfl, Nat.le_of_ble_eq_true rfl⟩ d_Course_take_1 (fun H locs hB => ?_)
  refine lv_if_ne (tgt := 19) hx hb d_Course_take_4 (by decide) (fun c_4 => ?_) (fun c_4 => ?_)
  · rw [if_neg c_4]
    have hf : vp_in (p_first mi) n := zi_firstN hI (fun e => c_4 (by rw [p_canTake, if_pos e]))
    refine lv_aload_n hx hb d_Course_take_19 rfl (lv_at hl 0 rfl) ?_
    refine zw_getR X hB fl_Course_26 5 (hs 5 _ rfl) rfl d_Course_take_20 ?_
    refine zw_callVr X hB mv_Course_145 4 (hs 4 _ rfl) rfl (c_Line_first hn hs z mi ml hI.2.2.2.1.1) rfl hl.1 ⟨Nat.le_of_ble_eq_true rfl, Nat.le_of_ble_eq_true rfl⟩ rfl (Nat.le_of_ble_eq_true rfl) ⟨Nat.le_of_ble_eq_true rfl, Nat.le_of_ble_eq_true rfl⟩ d_Course_take_23 (fun H locs hB => ?_)
    refine lv_istore_n (lv' := [(2, .int (p_first mi)), (0, .ref (ad 5)), (1, .int wk)]) hx hb d_Course_take_26 rfl hl (by decide) rfl (fun ls hl => ?_)
    refine lv_aload_n hx hb d_Course_take_27 rfl (lv_at hl 1 rfl) ?_
    refine zw_getR X hB fl_Course_26 5 (hs 5 _ rfl) rfl d_Course_take_28 ?_
    refine zw_callVv X hB mv_Course_178 4 (hs 4 _ rfl) rfl (c_Line_dropFirst hn hs z mi ml) rfl hl.1 ⟨Nat.le_of_ble_eq_true rfl, Nat.le_of_ble_eq_true rfl⟩ rfl (Nat.le_of_ble_eq_true rfl) ⟨Nat.le_of_ble_eq_true rfl, Nat.le_of_ble_eq_true rfl⟩ d_Course_take_31 (fun H locs hB => ?_)
    obtain ⟨mi_1, emi_1⟩ : ∃ y, y = p_drop n mi := ⟨_, rfl⟩
    rw [← emi_1] at hB
    refine lv_aload_n hx hb d_Course_take_34 rfl (lv_at hl 1 rfl) ?_
    refine zw_getR X hB fl_Course_33 5 (hs 5 _ rfl) rfl d_Course_take_35 ?_
    refine zw_getR X hB fl_Course_132 6 (hs 6 _ rfl) rfl d_Course_take_38 ?_
    refine lv_iload_n hx hb d_Course_take_41 rfl (lv_at hl 2 rfl) ?_
    refine lv_iload_n hx hb d_Course_take_42 rfl (lv_at hl 0 rfl) ?_
    refine zw_iast X hB 29 (hs 29 _ rfl) hw d_Course_take_43 (fun H locs hB => ?_)
    obtain ⟨mi_2, emi_2⟩ : ∃ y, y = zw_up mi_1 29 wk.toNatClampNeg (p_first mi) := ⟨_, rfl⟩
    rw [← emi_2] at hB
    refine lv_aload_n hx hb d_Course_take_44 rfl (lv_at hl 1 rfl) ?_
    refine zw_getR X hB fl_Course_46 5 (hs 5 _ rfl) rfl d_Course_take_45 ?_
    refine lv_iload_n hx hb d_Course_take_48 rfl (lv_at hl 0 rfl) ?_
    refine lv_dup2_11 hx hb d_Course_take_49 rfl rfl ?_
    refine zw_iald X hB 25 (hs 25 _ rfl) hf d_Course_take_50 ?_
    refine lv_iconst (v := 1) hx hb d_Course_take_51 (by decide) ?_
    refine lv_iadd hx hb d_Course_take_52 ?_
    refine zw_iast X hB 25 (hs 25 _ rfl) hf d_Course_take_53 (fun H locs hB => ?_)
    obtain ⟨mi_3, emi_3⟩ : ∃ y, y = zw_up mi_2 25 (p_first mi).toNatClampNeg ((mi_2 25 (p_first mi).toNatClampNeg) + 1) := ⟨_, rfl⟩
    rw [← emi_3] at hB
    refine lv_aload_n hx hb d_Course_take_54 rfl (lv_at hl 1 rfl) ?_
    refine lv_dup hx hb d_Course_take_55 rfl ?_
    refine zw_getI X hB fl_Course_79 5 (hs 5 _ rfl) rfl d_Course_take_56 ?_
    refine lv_aload_n hx hb d_Course_take_59 rfl (lv_at hl 1 rfl) ?_
    refine zw_getR X hB fl_Course_9 5 (hs 5 _ rfl) rfl d_Course_take_60 ?_
    refine zw_getR X hB fl_Course_148 1 (hs 1 _ rfl) rfl d_Course_take_63 ?_
    refine lv_iload_n hx hb d_Course_take_66 rfl (lv_at hl 0 rfl) ?_
    refine zw_iald X hB 8 (hs 8 _ rfl) hf d_Course_take_67 ?_
    refine lv_iadd hx hb d_Course_take_68 ?_
    refine zw_putI X hB fp_Course_79 (fun h => by cases h) 5 (hs 5 _ rfl) rfl d_Course_take_69 (fun H locs hB => ?_)
    obtain ⟨mi_4, emi_4⟩ : ∃ y, y = zw_up mi_3 5 9 ((mi_3 5 9) + (mi_3 8 (p_first mi).toNatClampNeg)) := ⟨_, rfl⟩
    rw [← emi_4] at hB
    refine lv_aload_n hx hb d_Course_take_72 rfl (lv_at hl 1 rfl) ?_
    refine lv_aload_n hx hb d_Course_take_73 rfl (lv_at hl 1 rfl) ?_
    refine zw_getI X hB fl_Course_82 5 (hs 5 _ rfl) rfl d_Course_take_74 ?_
    refine lv_aload_n hx hb d_Course_take_77 rfl (lv_at hl 1 rfl) ?_
    refine zw_getI X hB fl_Course_79 5 (hs 5 _ rfl) rfl d_Course_take_78 ?_
    refine va_mmax hx hb (X.2.2.1.trans hl.1.symm) X.2.2.2.1 (X.2.2.2.2.ts _ km_Course_181) (X.2.2.2.2.ts _ km_max_st) (X.2.2.2.2.ts _ km_math_in) (X.2.2.2.2.ts _ km_max_co) (Nat.le_of_ble_eq_true rfl) (Nat.le_of_ble_eq_true rfl) (Nat.le_of_ble_eq_true rfl) (Nat.le_of_ble_eq_true rfl) d_Course_take_81 ?_
    refine zw_putI X hB fp_Course_82 (fun h => by cases h) 5 (hs 5 _ rfl) rfl d_Course_take_84 (fun H locs hB => ?_)
    obtain ⟨mi_5, emi_5⟩ : ∃ y, y = zw_up mi_4 5 10 (if (mi_4 5 10) < (mi_4 5 9) then (mi_4 5 9) else (mi_4 5 10)) := ⟨_, rfl⟩
    rw [← emi_5] at hB
    refine lv_iconst (v := 1) hx hb d_Course_take_87 (by decide) ?_
    exact zc_zret X hr hlocks hB (by rfl) (by subst emi_5; subst emi_4; subst emi_3; subst emi_2; subst emi_1; rfl) (by subst emi_5; subst emi_4; subst emi_3; subst emi_2; subst emi_1; rfl) (by subst emi_5; subst emi_4; subst emi_3; subst emi_2; subst emi_1; rfl) d_Course_take_88
  · rw [if_pos c_4]
    refine lv_aload_n hx hb d_Course_take_7 rfl (lv_at hl 0 rfl) ?_
    refine lv_dup hx hb d_Course_take_8 rfl ?_
    refine zw_getI X hB fl_Course_88 5 (hs 5 _ rfl) rfl d_Course_take_9 ?_
    refine lv_iconst (v := 1) hx hb d_Course_take_12 (by decide) ?_
    refine lv_iadd hx hb d_Course_take_13 ?_
    refine zw_putI X hB fp_Course_88 (fun h => by cases h) 5 (hs 5 _ rfl) rfl d_Course_take_14 (fun H locs hB => ?_)
    obtain ⟨mi_6, emi_6⟩ : ∃ y, y = zw_up mi 5 12 ((mi 5 12) + 1) := ⟨_, rfl⟩
    rw [← emi_6] at hB
    refine lv_iconst (v := 0) hx hb d_Course_take_17 (by decide) ?_
    exact zc_zret X hr hlocks hB (by rfl) (by subst emi_6; rfl) (by subst emi_6; rfl) (by subst emi_6; rfl) d_Course_take_18

set_option maxHeartbeats 4000000 in
set_option maxRecDepth 100000 in
theorem c_Course_fail {l : Launch} {D : va_G} {cA : Nat → ClassId} {ad : Nat → Nat} {sh : zw_Sh} {n : Nat} (hn : n ≤ 16) (hs : ∀ (k : Nat) (q : zw_Sp), shX n k = some q → sh k = some q) (z : Nat) (mi : zw_I) (ml : zw_L) (wk : Int32) (x : Int32) (hI : zi n mi) (hx1 : vp_in x n) (ha : ¬ nI n ≤ (p_fail1 wk x mi) 4 2 → vp_in (p_wrapped n ((p_fail1 wk x mi) 4 1 + (p_fail1 wk x mi) 4 2)) n) :
    zc_M l D cA Y_Course_fail 2 0 0 ad sh sh z [.ref (ad 5), .int wk, .int x] mi ml none (p_fail n wk x mi) ml z := by
  refine zc_enter (own := R_Course) (by decide) rfl (Nat.le_of_ble_eq_true rfl) ?_
  intro p e s m below meth c X hr hlocks hnm hB ls hl
  have X : zw_C D cA R_Course prog_2_method_11_code 3 p m c s := X
  have hr : meth.sig.returnType = none := hr
  have hx := X.1
  have hb := X.2.1
  have hl : lv_has ls 3 [(0, .ref (ad 5)), (1, .int wk), (2, .int x)] := hl
  obtain ⟨w, hw, ew⟩ := hI.2.2.2.2.1
  refine lv_aload_n hx hb d_Course_fail_0 rfl (lv_at hl 0 rfl) ?_
  refine zw_getR X hB fl_Course_33 5 (hs 5 _ rfl) rfl d_Course_fail_1 ?_
  refine lv_iload_n hx hb d_Course_fail_4 rfl (lv_at hl 1 rfl) ?_
  refine zw_callVv X hB mv_Course_187 6 (hs 6 _ rfl) rfl (c_Crew_lose hn hs z mi ml wk w hw ew) rfl hl.1 ⟨Nat.le_of_ble_eq_true rfl, Nat.le_of_ble_eq_true rfl⟩ rfl (Nat.le_of_ble_eq_true rfl) ⟨Nat.le_of_ble_eq_true rfl, Nat.le_of_ble_eq_true rfl⟩ d_Course_fail_5 (fun H locs hB => ?_)
  obtain ⟨mi_1, emi_1⟩ : ∃ y, y = p_lose wk 17 0 0 mi := ⟨_, rfl⟩
  rw [← emi_1] at hB
  refine lv_aload_n hx hb d_Course_fail_8 rfl (lv_at hl 0 rfl) ?_
  refine zw_getR X hB fl_Course_37 5 (hs 5 _ rfl) rfl d_Course_fail_9 ?_
  refine lv_iload_n hx hb d_Course_fail_12 rfl (lv_at hl 2 rfl) ?_
  refine lv_iconst (v := 0) hx hb d_Course_fail_13 (by decide) ?_
  refine zw_iast X hB 23 (hs 23 _ rfl) hx1 d_Course_fail_14 (fun H locs hB => ?_)
  obtain ⟨mi_2, emi_2⟩ : ∃ y, y = zw_up mi_1 23 x.toNatClampNeg 0 := ⟨_, rfl⟩
  rw [← emi_2] at hB
  refine lv_aload_n hx hb d_Course_fail_15 rfl (lv_at hl 0 rfl) ?_
  refine lv_dup hx hb d_Course_fail_16 rfl ?_
  refine zw_getI X hB fl_Course_79 5 (hs 5 _ rfl) rfl d_Course_fail_17 ?_
  refine lv_aload_n hx hb d_Course_fail_20 rfl (lv_at hl 0 rfl) ?_
  refine zw_getR X hB fl_Course_9 5 (hs 5 _ rfl) rfl d_Course_fail_21 ?_
  refine zw_getR X hB fl_Course_148 1 (hs 1 _ rfl) rfl d_Course_fail_24 ?_
  refine lv_iload_n hx hb d_Course_fail_27 rfl (lv_at hl 2 rfl) ?_
  refine zw_iald X hB 8 (hs 8 _ rfl) hx1 d_Course_fail_28 ?_
  refine lv_isub hx hb d_Course_fail_29 ?_
  refine zw_putI X hB fp_Course_79 (fun h => by cases h) 5 (hs 5 _ rfl) rfl d_Course_fail_30 (fun H locs hB => ?_)
  obtain ⟨mi_3, emi_3⟩ : ∃ y, y = zw_up mi_2 5 9 ((mi_2 5 9) - (mi_2 8 x.toNatClampNeg)) := ⟨_, rfl⟩
  rw [← emi_3] at hB
  refine lv_aload_n hx hb d_Course_fail_33 rfl (lv_at hl 0 rfl) ?_
  refine zw_getR X hB fl_Course_26 5 (hs 5 _ rfl) rfl d_Course_fail_34 ?_
  refine lv_iload_n hx hb d_Course_fail_37 rfl (lv_at hl 2 rfl) ?_
  refine zw_callVv X hB mv_Course_190 4 (hs 4 _ rfl) rfl (c_Line_append hn hs z mi_3 ml x (by subst_vars; simpa [p_fail1, zw_up] using ha)) rfl hl.1 ⟨Nat.le_of_ble_eq_true rfl, Nat.le_of_ble_eq_true rfl⟩ rfl (Nat.le_of_ble_eq_true rfl) ⟨Nat.le_of_ble_eq_true rfl, Nat.le_of_ble_eq_true rfl⟩ d_Course_fail_38 (fun H locs hB => ?_)
  obtain ⟨mi_4, emi_4⟩ : ∃ y, y = p_append n mi_3 x := ⟨_, rfl⟩
  rw [← emi_4] at hB
  exact zc_vret X hr hlocks hB (by subst emi_4; subst emi_3; subst emi_2; subst emi_1; rfl) (by subst emi_4; subst emi_3; subst emi_2; subst emi_1; rfl) (by subst emi_4; subst emi_3; subst emi_2; subst emi_1; rfl) d_Course_fail_41

set_option maxHeartbeats 4000000 in
set_option maxRecDepth 100000 in
theorem c_Course_doStep {l : Launch} {D : va_G} {cA : Nat → ClassId} {ad : Nat → Nat} {sh : zw_Sh} {n : Nat} (hn : n ≤ 16) (hs : ∀ (k : Nat) (q : zw_Sp), shX n k = some q → sh k = some q) (z : Nat) (mi : zw_I) (ml : zw_L) (wk : Int32) (x : Int32) (hI : zi n mi) (hw : vp_in wk 16) (hx1 : vp_in x n) (hd0 : vp_in (mi 23 x.toNatClampNeg) 21) (hd1 : vp_in (mi 23 x.toNatClampNeg + 1) 21) (hf : ¬ p_isFin (p_step1 x mi) x = 0 → vp_in (mi 5 8) n) :
    zc_M l D cA Y_Course_doStep 1 0 0 ad sh sh z [.ref (ad 5), .int wk, .int x] mi ml none (p_step wk x mi) (p_stepL mi ml x) z := by
  refine zc_enter (own := R_Course) (by decide) rfl (Nat.le_of_ble_eq_true rfl) ?_
  intro p e s m below meth c X hr hlocks hnm hB ls hl
  have X : zw_C D cA R_Course prog_2_method_12_code 6 p m c s := X
  have hr : meth.sig.returnType = none := hr
  have hx := X.1
  have hb := X.2.1
  have hl : lv_has ls 6 [(0, .ref (ad 5)), (1, .int wk), (2, .int x)] := hl
  obtain ⟨⟨w, hw6, ew⟩, hom⟩ := hI.2.1 _ (vlt hx1)
  unfold p_step p_stepB
  refine lv_aload_n hx hb d_Course_doStep_0 rfl (lv_at hl 0 rfl) ?_
  refine zw_getR X hB fl_Course_37 5 (hs 5 _ rfl) rfl d_Course_doStep_1 ?_
  refine lv_iload_n hx hb d_Course_doStep_4 rfl (lv_at hl 2 rfl) ?_
  refine zw_iald X hB 23 (hs 23 _ rfl) hx1 d_Course_doStep_5 ?_
  refine lv_istore_n (lv' := [(3, .int (mi 23 x.toNatClampNeg)), (0, .ref (ad 5)), (1, .int wk), (2, .int x)]) hx hb d_Course_doStep_6 rfl hl (by decide) rfl (fun ls hl => ?_)
  refine lv_aload_n hx hb d_Course_doStep_7 rfl (lv_at hl 1 rfl) ?_
  refine zw_getR X hB fl_Course_43 5 (hs 5 _ rfl) rfl d_Course_doStep_8 ?_
  refine lv_iload_n hx hb d_Course_doStep_11 rfl (lv_at hl 3 rfl) ?_
  refine zw_aald X hB 24 (Or.inr rfl) (hs 24 _ rfl) hx1 d_Course_doStep_12 ?_
  refine lv_iload_n hx hb d_Course_doStep_13 rfl (lv_at hl 0 rfl) ?_
  refine zw_lald X hB (112 + x.toNatClampNeg) (hs _ _ (shr3 hn (vlt hx1))) hd0 d_Course_doStep_14 ?_
  refine lv_ldc2 (v := 6364136223846793005) hx hb X.2.2.2.1 (X.2.2.2.2.ts _ kc_Course_104) d_Course_doStep_15 ?_
  refine lv_lmul hx hb d_Course_doStep_18 ?_
  refine lv_iload_n hx hb d_Course_doStep_19 rfl (lv_at hl 0 rfl) ?_
  refine lv_i2l (v := (mi 23 x.toNatClampNeg).toInt64) hx hb d_Course_doStep_20 rfl ?_
  refine lv_ladd hx hb d_Course_doStep_21 ?_
  refine lv_lconst (v := 1) hx hb d_Course_doStep_22 (by decide) ?_
  refine lv_ladd hx hb d_Course_doStep_23 ?_
  refine lv_aload_n hx hb d_Course_doStep_24 rfl (lv_at hl 1 rfl) ?_
  refine zw_getR X hB fl_Course_9 5 (hs 5 _ rfl) rfl d_Course_doStep_25 ?_
  refine zw_getR X hB fl_Course_154 1 (hs 1 _ rfl) rfl d_Course_doStep_28 ?_
  refine lv_iload_n hx hb d_Course_doStep_31 rfl (lv_at hl 3 rfl) ?_
  refine lv_iload_n hx hb d_Course_doStep_32 rfl (lv_at hl 0 rfl) ?_
  refine lv_aload_n hx hb d_Course_doStep_33 rfl (lv_at hl 1 rfl) ?_
  refine zw_getR X hB fl_Course_43 5 (hs 5 _ rfl) rfl d_Course_doStep_34 ?_
  refine zw_callVr X hB mv_Course_193 2 (hs 2 _ rfl) rfl (c_Needs_sumOfValues hn hs z mi ml x (mi 23 x.toNatClampNeg) hx1 w hw6 ew (fun k hk => (hom k hk).1) (fun k hk => (hom k hk).2)) rfl hl.1 ⟨Nat.le_of_ble_eq_true rfl, Nat.le_of_ble_eq_true rfl⟩ rfl (Nat.le_of_ble_eq_true rfl) ⟨Nat.le_of_ble_eq_true rfl, Nat.le_of_ble_eq_true rfl⟩ d_Course_doStep_37 (fun H locs hB => ?_)
  refine lv_ladd hx hb d_Course_doStep_40 ?_
  refine lv_lstore (lv' := [(4, .long (((((ml (112 + x.toNatClampNeg) (mi 23 x.toNatClampNeg).toNatClampNeg) * 6364136223846793005) + ((mi 23 x.toNatClampNeg).toInt64)) + 1) + (p_sum mi ml x (mi 23 x.toNatClampNeg) 7 0 0))), (3, .int (mi 23 x.toNatClampNeg)), (0, .ref (ad 5)), (1, .int wk), (2, .int x)]) hx hb d_Course_doStep_41 hl (by decide) rfl (fun ls hl => ?_)
  refine lv_aload_n hx hb d_Course_doStep_43 rfl (lv_at hl 2 rfl) ?_
  refine zw_getR X hB fl_Course_43 5 (hs 5 _ rfl) rfl d_Course_doStep_44 ?_
  refine lv_iload_n hx hb d_Course_doStep_47 rfl (lv_at hl 4 rfl) ?_
  refine zw_aald X hB 24 (Or.inr rfl) (hs 24 _ rfl) hx1 d_Course_doStep_48 ?_
  refine lv_iload_n hx hb d_Course_doStep_49 rfl (lv_at hl 1 rfl) ?_
  refine lv_iconst (v := 1) hx hb d_Course_doStep_50 (by decide) ?_
  refine lv_iadd hx hb d_Course_doStep_51 ?_
  refine lv_lload hx hb d_Course_doStep_52 (lv_at hl 0 rfl) ?_
  refine lv_lload hx hb d_Course_doStep_54 (lv_at hl 0 rfl) ?_
  refine lv_bipush (v := 29) hx hb d_Course_doStep_56 (by decide) ?_
  refine lv_lushr (v := ((((((ml (112 + x.toNatClampNeg) (mi 23 x.toNatClampNeg).toNatClampNeg) * 6364136223846793005) + ((mi 23 x.toNatClampNeg).toInt64)) + 1) + (p_sum mi ml x (mi 23 x.toNatClampNeg) 7 0 0)).toUInt64 >>> ((29 : Int32).toInt64.toUInt64 &&& Int64.toUInt64 63)).toInt64) hx hb d_Course_doStep_58 rfl ?_
  refine lv_lxor hx hb d_Course_doStep_59 ?_
  refine zw_last X hB (112 + x.toNatClampNeg) (hs _ _ (shr3 hn (vlt hx1))) hd1 d_Course_doStep_60 (fun H locs hB => ?_)
  obtain ⟨ml_1, eml_1⟩ : ∃ y, y = zw_up ml (112 + x.toNatClampNeg) ((mi 23 x.toNatClampNeg) + 1).toNatClampNeg ((((((ml (112 + x.toNatClampNeg) (mi 23 x.toNatClampNeg).toNatClampNeg) * 6364136223846793005) + ((mi 23 x.toNatClampNeg).toInt64)) + 1) + (p_sum mi ml x (mi 23 x.toNatClampNeg) 7 0 0)) ^^^ (((((((ml (112 + x.toNatClampNeg) (mi 23 x.toNatClampNeg).toNatClampNeg) * 6364136223846793005) + ((mi 23 x.toNatClampNeg).toInt64)) + 1) + (p_sum mi ml x (mi 23 x.toNatClampNeg) 7 0 0)).toUInt64 >>> ((29 : Int32).toInt64.toUInt64 &&& Int64.toUInt64 63)).toInt64)) := ⟨_, rfl⟩
  rw [← eml_1] at hB
  refine lv_aload_n hx hb d_Course_doStep_61 rfl (lv_at hl 2 rfl) ?_
  refine zw_getR X hB fl_Course_37 5 (hs 5 _ rfl) rfl d_Course_doStep_62 ?_
  refine lv_iload_n hx hb d_Course_doStep_65 rfl (lv_at hl 4 rfl) ?_
  refine lv_iload_n hx hb d_Course_doStep_66 rfl (lv_at hl 1 rfl) ?_
  refine lv_iconst (v := 1) hx hb d_Course_doStep_67 (by decide) ?_
  refine lv_iadd hx hb d_Course_doStep_68 ?_
  refine zw_iast X hB 23 (hs 23 _ rfl) hx1 d_Course_doStep_69 (fun H locs hB => ?_)
  refine lv_aload_n hx hb d_Course_doStep_70 rfl (lv_at hl 2 rfl) ?_
  refine lv_dup hx hb d_Course_doStep_71 rfl ?_
  refine zw_getI X hB fl_Course_94 5 (hs 5 _ rfl) rfl d_Course_doStep_72 ?_
  refine lv_iconst (v := 1) hx hb d_Course_doStep_75 (by decide) ?_
  refine lv_iadd hx hb d_Course_doStep_76 ?_
  refine zw_putI X hB fp_Course_94 (fun h => by cases h) 5 (hs 5 _ rfl) rfl d_Course_doStep_77 (fun H locs hB => ?_)
  have hB : zw_B D cA ad sh (zw_A ad sh z) s.heap (p_step1 x mi) ml_1 z H locs := hB
  refine lv_aload_n hx hb d_Course_doStep_80 rfl (lv_at hl 2 rfl) ?_
  refine lv_iload_n hx hb d_Course_doStep_81 rfl (lv_at hl 4 rfl) ?_
  refine zw_callVr X hB mv_Course_122 5 (hs 5 _ rfl) rfl (c_Course_isFinished hn hs z (p_step1 x mi) ml_1 x hx1) rfl hl.1 ⟨Nat.le_of_ble_eq_true rfl, Nat.le_of_ble_eq_true rfl⟩ rfl (Nat.le_of_ble_eq_true rfl) ⟨Nat.le_of_ble_eq_true rfl, Nat.le_of_ble_eq_true rfl⟩ d_Course_doStep_82 (fun H locs hB => ?_)
  refine lv_if_eq (tgt := 136) hx hb d_Course_doStep_85 (by decide) (fun c_85 => ?_) (fun c_85 => ?_)
  · rw [if_pos c_85]
    exact zc_vret X hr hlocks hB (by subst eml_1; rfl) (by subst eml_1; rfl) (by subst eml_1; rfl) d_Course_doStep_136
  · rw [if_neg c_85]
    refine lv_aload_n hx hb d_Course_doStep_88 rfl (lv_at hl 2 rfl) ?_
    refine zw_getR X hB fl_Course_33 5 (hs 5 _ rfl) rfl d_Course_doStep_89 ?_
    refine zw_getR X hB fl_Course_132 6 (hs 6 _ rfl) rfl d_Course_doStep_92 ?_
    refine lv_iload_n hx hb d_Course_doStep_95 rfl (lv_at hl 3 rfl) ?_
    refine lv_iconst (v := (-1)) hx hb d_Course_doStep_96 (by decide) ?_
    refine zw_iast X hB 29 (hs 29 _ rfl) hw d_Course_doStep_97 (fun H locs hB => ?_)
    obtain ⟨mi_2, emi_2⟩ : ∃ y, y = zw_up (p_step1 x mi) 29 wk.toNatClampNeg (-1) := ⟨_, rfl⟩
    rw [← emi_2] at hB
    refine lv_aload_n hx hb d_Course_doStep_98 rfl (lv_at hl 2 rfl) ?_
    refine lv_dup hx hb d_Course_doStep_99 rfl ?_
    refine zw_getI X hB fl_Course_79 5 (hs 5 _ rfl) rfl d_Course_doStep_100 ?_
    refine lv_aload_n hx hb d_Course_doStep_103 rfl (lv_at hl 2 rfl) ?_
    refine zw_getR X hB fl_Course_9 5 (hs 5 _ rfl) rfl d_Course_doStep_104 ?_
    refine zw_getR X hB fl_Course_148 1 (hs 1 _ rfl) rfl d_Course_doStep_107 ?_
    refine lv_iload_n hx hb d_Course_doStep_110 rfl (lv_at hl 4 rfl) ?_
    refine zw_iald X hB 8 (hs 8 _ rfl) hx1 d_Course_doStep_111 ?_
    refine lv_isub hx hb d_Course_doStep_112 ?_
    refine zw_putI X hB fp_Course_79 (fun h => by cases h) 5 (hs 5 _ rfl) rfl d_Course_doStep_113 (fun H locs hB => ?_)
    obtain ⟨mi_3, emi_3⟩ : ∃ y, y = zw_up mi_2 5 9 ((mi_2 5 9) - (mi_2 8 x.toNatClampNeg)) := ⟨_, rfl⟩
    rw [← emi_3] at hB
    refine lv_aload_n hx hb d_Course_doStep_116 rfl (lv_at hl 2 rfl) ?_
    refine zw_getR X hB fl_Course_54 5 (hs 5 _ rfl) rfl d_Course_doStep_117 ?_
    refine lv_aload_n hx hb d_Course_doStep_120 rfl (lv_at hl 2 rfl) ?_
    refine zw_getI X hB fl_Course_76 5 (hs 5 _ rfl) rfl d_Course_doStep_121 ?_
    refine lv_iload_n hx hb d_Course_doStep_124 rfl (lv_at hl 4 rfl) ?_
    refine zw_iast X hB 27 (hs 27 _ rfl) (by subst_vars; simpa [zw_up, p_step1, p_step2] using hf c_85) d_Course_doStep_125 (fun H locs hB => ?_)
    obtain ⟨mi_4, emi_4⟩ : ∃ y, y = zw_up mi_3 27 (mi_3 5 8).toNatClampNeg x := ⟨_, rfl⟩
    rw [← emi_4] at hB
    refine lv_aload_n hx hb d_Course_doStep_126 rfl (lv_at hl 2 rfl) ?_
    refine lv_dup hx hb d_Course_doStep_127 rfl ?_
    refine zw_getI X hB fl_Course_76 5 (hs 5 _ rfl) rfl d_Course_doStep_128 ?_
    refine lv_iconst (v := 1) hx hb d_Course_doStep_131 (by decide) ?_
    refine lv_iadd hx hb d_Course_doStep_132 ?_
    refine zw_putI X hB fp_Course_76 (fun h => by cases h) 5 (hs 5 _ rfl) rfl d_Course_doStep_133 (fun H locs hB => ?_)
    obtain ⟨mi_5, emi_5⟩ : ∃ y, y = zw_up mi_4 5 8 ((mi_4 5 8) + 1) := ⟨_, rfl⟩
    rw [← emi_5] at hB
    exact zc_vret X hr hlocks hB (by subst emi_5; subst emi_4; subst emi_3; subst emi_2; subst eml_1; rfl) (by subst emi_5; subst emi_4; subst emi_3; subst emi_2; subst eml_1; rfl) (by subst emi_5; subst emi_4; subst emi_3; subst emi_2; subst eml_1; rfl) d_Course_doStep_136
