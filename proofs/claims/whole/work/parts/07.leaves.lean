abbrev Y_Line_wrapped : zc_Y := (⟨R_Line, "wrapped", "(I)I"⟩, prog_5_method_6_code, 2, (some FieldType.int))
abbrev Y_Line_first : zc_Y := (⟨R_Line, "first", "()I"⟩, prog_5_method_3_code, 1, (some FieldType.int))
abbrev Y_Line_dropFirst : zc_Y := (⟨R_Line, "dropFirst", "()V"⟩, prog_5_method_4_code, 1, none)
abbrev Y_Line_append : zc_Y := (⟨R_Line, "append", "(I)V"⟩, prog_5_method_5_code, 2, none)
abbrev Y_Line_fillByNumber : zc_Y := (⟨R_Line, "fillByNumber", "()V"⟩, prog_5_method_2_code, 2, none)
abbrev Y_Crew_gather : zc_Y := (⟨R_Crew, "gather", "(I)V"⟩, prog_3_method_2_code, 3, none)
abbrev Y_Crew_whoseTurn : zc_Y := (⟨R_Crew, "whoseTurn", "(J)I"⟩, prog_3_method_3_code, 3, (some FieldType.int))
abbrev Y_Crew_lose : zc_Y := (⟨R_Crew, "lose", "(I)V"⟩, prog_3_method_4_code, 4, none)
abbrev Y_Failings_add : zc_Y := (⟨R_Failings, "add", "(IIII)I"⟩, prog_4_method_2_code, 5, (some FieldType.int))
abbrev Y_Failings_renew : zc_Y := (⟨R_Failings, "renew", "()V"⟩, prog_4_method_3_code, 2, none)
abbrev Y_Failings_strike : zc_Y := (⟨R_Failings, "strike", "(III)Z"⟩, prog_4_method_4_code, 5, (some FieldType.boolean))
abbrev Y_Needs_add : zc_Y := (⟨R_Needs, "add", "(IIII)I"⟩, prog_6_method_2_code, 6, (some FieldType.int))
abbrev Y_Needs_firstUnmet : zc_Y := (⟨R_Needs, "firstUnmet", "(II[I)I"⟩, prog_6_method_3_code, 6, (some FieldType.int))
abbrev Y_Needs_sumOfValues : zc_Y := (⟨R_Needs, "sumOfValues", "(II[[J)J"⟩, prog_6_method_4_code, 7, (some FieldType.long))
theorem d_Line_wrapped_0 : decode prog_5_method_6_code 0 = .ok (.iload_n 1, 1) := by decide +kernel
theorem d_Line_wrapped_1 : decode prog_5_method_6_code 1 = .ok (.aload_n 0, 1) := by decide +kernel
theorem d_Line_wrapped_2 : decode prog_5_method_6_code 2 = .ok (.getfield 9, 3) := by decide +kernel
theorem d_Line_wrapped_5 : decode prog_5_method_6_code 5 = .ok (.arraylength, 1) := by decide +kernel
theorem d_Line_wrapped_6 : decode prog_5_method_6_code 6 = .ok (.if_icmp .ge 7, 3) := by decide +kernel
theorem d_Line_wrapped_9 : decode prog_5_method_6_code 9 = .ok (.iload_n 1, 1) := by decide +kernel
theorem d_Line_wrapped_10 : decode prog_5_method_6_code 10 = .ok (.goto 10, 3) := by decide +kernel
theorem d_Line_wrapped_13 : decode prog_5_method_6_code 13 = .ok (.iload_n 1, 1) := by decide +kernel
theorem d_Line_wrapped_14 : decode prog_5_method_6_code 14 = .ok (.aload_n 0, 1) := by decide +kernel
theorem d_Line_wrapped_15 : decode prog_5_method_6_code 15 = .ok (.getfield 9, 3) := by decide +kernel
theorem d_Line_wrapped_18 : decode prog_5_method_6_code 18 = .ok (.arraylength, 1) := by decide +kernel
theorem d_Line_wrapped_19 : decode prog_5_method_6_code 19 = .ok (.isub, 1) := by decide +kernel
theorem d_Line_wrapped_20 : decode prog_5_method_6_code 20 = .ok (.ireturn, 1) := by decide +kernel
theorem d_Line_first_0 : decode prog_5_method_3_code 0 = .ok (.aload_n 0, 1) := by decide +kernel
theorem d_Line_first_1 : decode prog_5_method_3_code 1 = .ok (.getfield 19, 3) := by decide +kernel
theorem d_Line_first_4 : decode prog_5_method_3_code 4 = .ok (.ifCond .le 15, 3) := by decide +kernel
theorem d_Line_first_7 : decode prog_5_method_3_code 7 = .ok (.aload_n 0, 1) := by decide +kernel
theorem d_Line_first_8 : decode prog_5_method_3_code 8 = .ok (.getfield 9, 3) := by decide +kernel
theorem d_Line_first_11 : decode prog_5_method_3_code 11 = .ok (.aload_n 0, 1) := by decide +kernel
theorem d_Line_first_12 : decode prog_5_method_3_code 12 = .ok (.getfield 15, 3) := by decide +kernel
theorem d_Line_first_15 : decode prog_5_method_3_code 15 = .ok (.iaload, 1) := by decide +kernel
theorem d_Line_first_16 : decode prog_5_method_3_code 16 = .ok (.goto 4, 3) := by decide +kernel
theorem d_Line_first_19 : decode prog_5_method_3_code 19 = .ok (.iconst (-1), 1) := by decide +kernel
theorem d_Line_first_20 : decode prog_5_method_3_code 20 = .ok (.ireturn, 1) := by decide +kernel
theorem d_Line_dropFirst_0 : decode prog_5_method_4_code 0 = .ok (.aload_n 0, 1) := by decide +kernel
theorem d_Line_dropFirst_1 : decode prog_5_method_4_code 1 = .ok (.getfield 19, 3) := by decide +kernel
theorem d_Line_dropFirst_4 : decode prog_5_method_4_code 4 = .ok (.ifCond .le 27, 3) := by decide +kernel
theorem d_Line_dropFirst_7 : decode prog_5_method_4_code 7 = .ok (.aload_n 0, 1) := by decide +kernel
theorem d_Line_dropFirst_8 : decode prog_5_method_4_code 8 = .ok (.aload_n 0, 1) := by decide +kernel
theorem d_Line_dropFirst_9 : decode prog_5_method_4_code 9 = .ok (.aload_n 0, 1) := by decide +kernel
theorem d_Line_dropFirst_10 : decode prog_5_method_4_code 10 = .ok (.getfield 15, 3) := by decide +kernel
theorem d_Line_dropFirst_13 : decode prog_5_method_4_code 13 = .ok (.iconst 1, 1) := by decide +kernel
theorem d_Line_dropFirst_14 : decode prog_5_method_4_code 14 = .ok (.iadd, 1) := by decide +kernel
theorem d_Line_dropFirst_15 : decode prog_5_method_4_code 15 = .ok (.invokevirtual 22, 3) := by decide +kernel
theorem d_Line_dropFirst_18 : decode prog_5_method_4_code 18 = .ok (.putfield 15, 3) := by decide +kernel
theorem d_Line_dropFirst_21 : decode prog_5_method_4_code 21 = .ok (.aload_n 0, 1) := by decide +kernel
theorem d_Line_dropFirst_22 : decode prog_5_method_4_code 22 = .ok (.dup, 1) := by decide +kernel
theorem d_Line_dropFirst_23 : decode prog_5_method_4_code 23 = .ok (.getfield 19, 3) := by decide +kernel
theorem d_Line_dropFirst_26 : decode prog_5_method_4_code 26 = .ok (.iconst 1, 1) := by decide +kernel
theorem d_Line_dropFirst_27 : decode prog_5_method_4_code 27 = .ok (.isub, 1) := by decide +kernel
theorem d_Line_dropFirst_28 : decode prog_5_method_4_code 28 = .ok (.putfield 19, 3) := by decide +kernel
theorem d_Line_dropFirst_31 : decode prog_5_method_4_code 31 = .ok (.return_, 1) := by decide +kernel
theorem d_Line_append_0 : decode prog_5_method_5_code 0 = .ok (.aload_n 0, 1) := by decide +kernel
theorem d_Line_append_1 : decode prog_5_method_5_code 1 = .ok (.getfield 19, 3) := by decide +kernel
theorem d_Line_append_4 : decode prog_5_method_5_code 4 = .ok (.aload_n 0, 1) := by decide +kernel
theorem d_Line_append_5 : decode prog_5_method_5_code 5 = .ok (.getfield 9, 3) := by decide +kernel
theorem d_Line_append_8 : decode prog_5_method_5_code 8 = .ok (.arraylength, 1) := by decide +kernel
theorem d_Line_append_9 : decode prog_5_method_5_code 9 = .ok (.if_icmp .ge 32, 3) := by decide +kernel
theorem d_Line_append_12 : decode prog_5_method_5_code 12 = .ok (.aload_n 0, 1) := by decide +kernel
theorem d_Line_append_13 : decode prog_5_method_5_code 13 = .ok (.getfield 9, 3) := by decide +kernel
theorem d_Line_append_16 : decode prog_5_method_5_code 16 = .ok (.aload_n 0, 1) := by decide +kernel
theorem d_Line_append_17 : decode prog_5_method_5_code 17 = .ok (.aload_n 0, 1) := by decide +kernel
theorem d_Line_append_18 : decode prog_5_method_5_code 18 = .ok (.getfield 15, 3) := by decide +kernel
theorem d_Line_append_21 : decode prog_5_method_5_code 21 = .ok (.aload_n 0, 1) := by decide +kernel
theorem d_Line_append_22 : decode prog_5_method_5_code 22 = .ok (.getfield 19, 3) := by decide +kernel
theorem d_Line_append_25 : decode prog_5_method_5_code 25 = .ok (.iadd, 1) := by decide +kernel
theorem d_Line_append_26 : decode prog_5_method_5_code 26 = .ok (.invokevirtual 22, 3) := by decide +kernel
theorem d_Line_append_29 : decode prog_5_method_5_code 29 = .ok (.iload_n 1, 1) := by decide +kernel
theorem d_Line_append_30 : decode prog_5_method_5_code 30 = .ok (.iastore, 1) := by decide +kernel
theorem d_Line_append_31 : decode prog_5_method_5_code 31 = .ok (.aload_n 0, 1) := by decide +kernel
theorem d_Line_append_32 : decode prog_5_method_5_code 32 = .ok (.dup, 1) := by decide +kernel
theorem d_Line_append_33 : decode prog_5_method_5_code 33 = .ok (.getfield 19, 3) := by decide +kernel
theorem d_Line_append_36 : decode prog_5_method_5_code 36 = .ok (.iconst 1, 1) := by decide +kernel
theorem d_Line_append_37 : decode prog_5_method_5_code 37 = .ok (.iadd, 1) := by decide +kernel
theorem d_Line_append_38 : decode prog_5_method_5_code 38 = .ok (.putfield 19, 3) := by decide +kernel
theorem d_Line_append_41 : decode prog_5_method_5_code 41 = .ok (.return_, 1) := by decide +kernel
theorem d_Line_fillByNumber_0 : decode prog_5_method_2_code 0 = .ok (.iconst 0, 1) := by decide +kernel
theorem d_Line_fillByNumber_1 : decode prog_5_method_2_code 1 = .ok (.istore_n 1, 1) := by decide +kernel
theorem d_Line_fillByNumber_2 : decode prog_5_method_2_code 2 = .ok (.iload_n 1, 1) := by decide +kernel
theorem d_Line_fillByNumber_3 : decode prog_5_method_2_code 3 = .ok (.aload_n 0, 1) := by decide +kernel
theorem d_Line_fillByNumber_4 : decode prog_5_method_2_code 4 = .ok (.getfield 9, 3) := by decide +kernel
theorem d_Line_fillByNumber_7 : decode prog_5_method_2_code 7 = .ok (.arraylength, 1) := by decide +kernel
theorem d_Line_fillByNumber_8 : decode prog_5_method_2_code 8 = .ok (.if_icmp .ge 16, 3) := by decide +kernel
theorem d_Line_fillByNumber_11 : decode prog_5_method_2_code 11 = .ok (.aload_n 0, 1) := by decide +kernel
theorem d_Line_fillByNumber_12 : decode prog_5_method_2_code 12 = .ok (.getfield 9, 3) := by decide +kernel
theorem d_Line_fillByNumber_15 : decode prog_5_method_2_code 15 = .ok (.iload_n 1, 1) := by decide +kernel
theorem d_Line_fillByNumber_16 : decode prog_5_method_2_code 16 = .ok (.iload_n 1, 1) := by decide +kernel
theorem d_Line_fillByNumber_17 : decode prog_5_method_2_code 17 = .ok (.iastore, 1) := by decide +kernel
theorem d_Line_fillByNumber_18 : decode prog_5_method_2_code 18 = .ok (.iinc 1 1, 3) := by decide +kernel
theorem d_Line_fillByNumber_21 : decode prog_5_method_2_code 21 = .ok (.goto (-19), 3) := by decide +kernel
theorem d_Line_fillByNumber_24 : decode prog_5_method_2_code 24 = .ok (.aload_n 0, 1) := by decide +kernel
theorem d_Line_fillByNumber_25 : decode prog_5_method_2_code 25 = .ok (.iconst 0, 1) := by decide +kernel
theorem d_Line_fillByNumber_26 : decode prog_5_method_2_code 26 = .ok (.putfield 15, 3) := by decide +kernel
theorem d_Line_fillByNumber_29 : decode prog_5_method_2_code 29 = .ok (.aload_n 0, 1) := by decide +kernel
theorem d_Line_fillByNumber_30 : decode prog_5_method_2_code 30 = .ok (.aload_n 0, 1) := by decide +kernel
theorem d_Line_fillByNumber_31 : decode prog_5_method_2_code 31 = .ok (.getfield 9, 3) := by decide +kernel
theorem d_Line_fillByNumber_34 : decode prog_5_method_2_code 34 = .ok (.arraylength, 1) := by decide +kernel
theorem d_Line_fillByNumber_35 : decode prog_5_method_2_code 35 = .ok (.putfield 19, 3) := by decide +kernel
theorem d_Line_fillByNumber_38 : decode prog_5_method_2_code 38 = .ok (.return_, 1) := by decide +kernel
theorem d_Crew_gather_0 : decode prog_3_method_2_code 0 = .ok (.iconst 0, 1) := by decide +kernel
theorem d_Crew_gather_1 : decode prog_3_method_2_code 1 = .ok (.istore_n 2, 1) := by decide +kernel
theorem d_Crew_gather_2 : decode prog_3_method_2_code 2 = .ok (.iload_n 2, 1) := by decide +kernel
theorem d_Crew_gather_3 : decode prog_3_method_2_code 3 = .ok (.iload_n 1, 1) := by decide +kernel
theorem d_Crew_gather_4 : decode prog_3_method_2_code 4 = .ok (.if_icmp .ge 23, 3) := by decide +kernel
theorem d_Crew_gather_7 : decode prog_3_method_2_code 7 = .ok (.aload_n 0, 1) := by decide +kernel
theorem d_Crew_gather_8 : decode prog_3_method_2_code 8 = .ok (.getfield 9, 3) := by decide +kernel
theorem d_Crew_gather_11 : decode prog_3_method_2_code 11 = .ok (.iload_n 2, 1) := by decide +kernel
theorem d_Crew_gather_12 : decode prog_3_method_2_code 12 = .ok (.iload_n 2, 1) := by decide +kernel
theorem d_Crew_gather_13 : decode prog_3_method_2_code 13 = .ok (.iastore, 1) := by decide +kernel
theorem d_Crew_gather_14 : decode prog_3_method_2_code 14 = .ok (.aload_n 0, 1) := by decide +kernel
theorem d_Crew_gather_15 : decode prog_3_method_2_code 15 = .ok (.getfield 15, 3) := by decide +kernel
theorem d_Crew_gather_18 : decode prog_3_method_2_code 18 = .ok (.iload_n 2, 1) := by decide +kernel
theorem d_Crew_gather_19 : decode prog_3_method_2_code 19 = .ok (.iconst (-1), 1) := by decide +kernel
theorem d_Crew_gather_20 : decode prog_3_method_2_code 20 = .ok (.iastore, 1) := by decide +kernel
theorem d_Crew_gather_21 : decode prog_3_method_2_code 21 = .ok (.iinc 2 1, 3) := by decide +kernel
theorem d_Crew_gather_24 : decode prog_3_method_2_code 24 = .ok (.goto (-22), 3) := by decide +kernel
theorem d_Crew_gather_27 : decode prog_3_method_2_code 27 = .ok (.aload_n 0, 1) := by decide +kernel
theorem d_Crew_gather_28 : decode prog_3_method_2_code 28 = .ok (.iload_n 1, 1) := by decide +kernel
theorem d_Crew_gather_29 : decode prog_3_method_2_code 29 = .ok (.putfield 18, 3) := by decide +kernel
theorem d_Crew_gather_32 : decode prog_3_method_2_code 32 = .ok (.return_, 1) := by decide +kernel
theorem d_Crew_whoseTurn_0 : decode prog_3_method_3_code 0 = .ok (.aload_n 0, 1) := by decide +kernel
theorem d_Crew_whoseTurn_1 : decode prog_3_method_3_code 1 = .ok (.getfield 18, 3) := by decide +kernel
theorem d_Crew_whoseTurn_4 : decode prog_3_method_3_code 4 = .ok (.ifCond .le 22, 3) := by decide +kernel
theorem d_Crew_whoseTurn_7 : decode prog_3_method_3_code 7 = .ok (.aload_n 0, 1) := by decide +kernel
theorem d_Crew_whoseTurn_8 : decode prog_3_method_3_code 8 = .ok (.getfield 9, 3) := by decide +kernel
theorem d_Crew_whoseTurn_11 : decode prog_3_method_3_code 11 = .ok (.lload_n 1, 1) := by decide +kernel
theorem d_Crew_whoseTurn_12 : decode prog_3_method_3_code 12 = .ok (.bipush 33, 2) := by decide +kernel
theorem d_Crew_whoseTurn_14 : decode prog_3_method_3_code 14 = .ok (.lushr, 1) := by decide +kernel
theorem d_Crew_whoseTurn_15 : decode prog_3_method_3_code 15 = .ok (.aload_n 0, 1) := by decide +kernel
theorem d_Crew_whoseTurn_16 : decode prog_3_method_3_code 16 = .ok (.getfield 18, 3) := by decide +kernel
theorem d_Crew_whoseTurn_19 : decode prog_3_method_3_code 19 = .ok (.i2l, 1) := by decide +kernel
theorem d_Crew_whoseTurn_20 : decode prog_3_method_3_code 20 = .ok (.lrem, 1) := by decide +kernel
theorem d_Crew_whoseTurn_21 : decode prog_3_method_3_code 21 = .ok (.l2i, 1) := by decide +kernel
theorem d_Crew_whoseTurn_22 : decode prog_3_method_3_code 22 = .ok (.iaload, 1) := by decide +kernel
theorem d_Crew_whoseTurn_23 : decode prog_3_method_3_code 23 = .ok (.goto 4, 3) := by decide +kernel
theorem d_Crew_whoseTurn_26 : decode prog_3_method_3_code 26 = .ok (.iconst (-1), 1) := by decide +kernel
theorem d_Crew_whoseTurn_27 : decode prog_3_method_3_code 27 = .ok (.ireturn, 1) := by decide +kernel
theorem d_Crew_lose_0 : decode prog_3_method_4_code 0 = .ok (.iconst 0, 1) := by decide +kernel
theorem d_Crew_lose_1 : decode prog_3_method_4_code 1 = .ok (.istore_n 2, 1) := by decide +kernel
theorem d_Crew_lose_2 : decode prog_3_method_4_code 2 = .ok (.iconst 0, 1) := by decide +kernel
theorem d_Crew_lose_3 : decode prog_3_method_4_code 3 = .ok (.istore_n 3, 1) := by decide +kernel
theorem d_Crew_lose_4 : decode prog_3_method_4_code 4 = .ok (.iload_n 3, 1) := by decide +kernel
theorem d_Crew_lose_5 : decode prog_3_method_4_code 5 = .ok (.aload_n 0, 1) := by decide +kernel
theorem d_Crew_lose_6 : decode prog_3_method_4_code 6 = .ok (.getfield 18, 3) := by decide +kernel
theorem d_Crew_lose_9 : decode prog_3_method_4_code 9 = .ok (.if_icmp .ge 34, 3) := by decide +kernel
theorem d_Crew_lose_12 : decode prog_3_method_4_code 12 = .ok (.aload_n 0, 1) := by decide +kernel
theorem d_Crew_lose_13 : decode prog_3_method_4_code 13 = .ok (.getfield 9, 3) := by decide +kernel
theorem d_Crew_lose_16 : decode prog_3_method_4_code 16 = .ok (.iload_n 3, 1) := by decide +kernel
theorem d_Crew_lose_17 : decode prog_3_method_4_code 17 = .ok (.iaload, 1) := by decide +kernel
theorem d_Crew_lose_18 : decode prog_3_method_4_code 18 = .ok (.iload_n 1, 1) := by decide +kernel
theorem d_Crew_lose_19 : decode prog_3_method_4_code 19 = .ok (.if_icmp .eq 18, 3) := by decide +kernel
theorem d_Crew_lose_22 : decode prog_3_method_4_code 22 = .ok (.aload_n 0, 1) := by decide +kernel
theorem d_Crew_lose_23 : decode prog_3_method_4_code 23 = .ok (.getfield 9, 3) := by decide +kernel
theorem d_Crew_lose_26 : decode prog_3_method_4_code 26 = .ok (.iload_n 2, 1) := by decide +kernel
theorem d_Crew_lose_27 : decode prog_3_method_4_code 27 = .ok (.aload_n 0, 1) := by decide +kernel
theorem d_Crew_lose_28 : decode prog_3_method_4_code 28 = .ok (.getfield 9, 3) := by decide +kernel
theorem d_Crew_lose_31 : decode prog_3_method_4_code 31 = .ok (.iload_n 3, 1) := by decide +kernel
theorem d_Crew_lose_32 : decode prog_3_method_4_code 32 = .ok (.iaload, 1) := by decide +kernel
theorem d_Crew_lose_33 : decode prog_3_method_4_code 33 = .ok (.iastore, 1) := by decide +kernel
theorem d_Crew_lose_34 : decode prog_3_method_4_code 34 = .ok (.iinc 2 1, 3) := by decide +kernel
theorem d_Crew_lose_37 : decode prog_3_method_4_code 37 = .ok (.iinc 3 1, 3) := by decide +kernel
theorem d_Crew_lose_40 : decode prog_3_method_4_code 40 = .ok (.goto (-36), 3) := by decide +kernel
theorem d_Crew_lose_43 : decode prog_3_method_4_code 43 = .ok (.aload_n 0, 1) := by decide +kernel
theorem d_Crew_lose_44 : decode prog_3_method_4_code 44 = .ok (.iload_n 2, 1) := by decide +kernel
theorem d_Crew_lose_45 : decode prog_3_method_4_code 45 = .ok (.putfield 18, 3) := by decide +kernel
theorem d_Crew_lose_48 : decode prog_3_method_4_code 48 = .ok (.return_, 1) := by decide +kernel
theorem d_Failings_add_0 : decode prog_4_method_2_code 0 = .ok (.aload_n 0, 1) := by decide +kernel
theorem d_Failings_add_1 : decode prog_4_method_2_code 1 = .ok (.getfield 9, 3) := by decide +kernel
theorem d_Failings_add_4 : decode prog_4_method_2_code 4 = .ok (.aload_n 0, 1) := by decide +kernel
theorem d_Failings_add_5 : decode prog_4_method_2_code 5 = .ok (.getfield 27, 3) := by decide +kernel
theorem d_Failings_add_8 : decode prog_4_method_2_code 8 = .ok (.iload_n 1, 1) := by decide +kernel
theorem d_Failings_add_9 : decode prog_4_method_2_code 9 = .ok (.iastore, 1) := by decide +kernel
theorem d_Failings_add_10 : decode prog_4_method_2_code 10 = .ok (.aload_n 0, 1) := by decide +kernel
theorem d_Failings_add_11 : decode prog_4_method_2_code 11 = .ok (.getfield 15, 3) := by decide +kernel
theorem d_Failings_add_14 : decode prog_4_method_2_code 14 = .ok (.aload_n 0, 1) := by decide +kernel
theorem d_Failings_add_15 : decode prog_4_method_2_code 15 = .ok (.getfield 27, 3) := by decide +kernel
theorem d_Failings_add_18 : decode prog_4_method_2_code 18 = .ok (.iload_n 2, 1) := by decide +kernel
theorem d_Failings_add_19 : decode prog_4_method_2_code 19 = .ok (.iastore, 1) := by decide +kernel
theorem d_Failings_add_20 : decode prog_4_method_2_code 20 = .ok (.aload_n 0, 1) := by decide +kernel
theorem d_Failings_add_21 : decode prog_4_method_2_code 21 = .ok (.getfield 18, 3) := by decide +kernel
theorem d_Failings_add_24 : decode prog_4_method_2_code 24 = .ok (.aload_n 0, 1) := by decide +kernel
theorem d_Failings_add_25 : decode prog_4_method_2_code 25 = .ok (.getfield 27, 3) := by decide +kernel
theorem d_Failings_add_28 : decode prog_4_method_2_code 28 = .ok (.iload_n 3, 1) := by decide +kernel
theorem d_Failings_add_29 : decode prog_4_method_2_code 29 = .ok (.iastore, 1) := by decide +kernel
theorem d_Failings_add_30 : decode prog_4_method_2_code 30 = .ok (.aload_n 0, 1) := by decide +kernel
theorem d_Failings_add_31 : decode prog_4_method_2_code 31 = .ok (.getfield 21, 3) := by decide +kernel
theorem d_Failings_add_34 : decode prog_4_method_2_code 34 = .ok (.aload_n 0, 1) := by decide +kernel
theorem d_Failings_add_35 : decode prog_4_method_2_code 35 = .ok (.getfield 27, 3) := by decide +kernel
theorem d_Failings_add_38 : decode prog_4_method_2_code 38 = .ok (.iload 4, 2) := by decide +kernel
theorem d_Failings_add_40 : decode prog_4_method_2_code 40 = .ok (.iastore, 1) := by decide +kernel
theorem d_Failings_add_41 : decode prog_4_method_2_code 41 = .ok (.aload_n 0, 1) := by decide +kernel
theorem d_Failings_add_42 : decode prog_4_method_2_code 42 = .ok (.dup, 1) := by decide +kernel
theorem d_Failings_add_43 : decode prog_4_method_2_code 43 = .ok (.getfield 27, 3) := by decide +kernel
theorem d_Failings_add_46 : decode prog_4_method_2_code 46 = .ok (.iconst 1, 1) := by decide +kernel
theorem d_Failings_add_47 : decode prog_4_method_2_code 47 = .ok (.iadd, 1) := by decide +kernel
theorem d_Failings_add_48 : decode prog_4_method_2_code 48 = .ok (.putfield 27, 3) := by decide +kernel
theorem d_Failings_add_51 : decode prog_4_method_2_code 51 = .ok (.aload_n 0, 1) := by decide +kernel
theorem d_Failings_add_52 : decode prog_4_method_2_code 52 = .ok (.getfield 27, 3) := by decide +kernel
theorem d_Failings_add_55 : decode prog_4_method_2_code 55 = .ok (.ireturn, 1) := by decide +kernel
theorem d_Failings_renew_0 : decode prog_4_method_3_code 0 = .ok (.iconst 0, 1) := by decide +kernel
theorem d_Failings_renew_1 : decode prog_4_method_3_code 1 = .ok (.istore_n 1, 1) := by decide +kernel
theorem d_Failings_renew_2 : decode prog_4_method_3_code 2 = .ok (.iload_n 1, 1) := by decide +kernel
theorem d_Failings_renew_3 : decode prog_4_method_3_code 3 = .ok (.aload_n 0, 1) := by decide +kernel
theorem d_Failings_renew_4 : decode prog_4_method_3_code 4 = .ok (.getfield 27, 3) := by decide +kernel
theorem d_Failings_renew_7 : decode prog_4_method_3_code 7 = .ok (.if_icmp .ge 21, 3) := by decide +kernel
theorem d_Failings_renew_10 : decode prog_4_method_3_code 10 = .ok (.aload_n 0, 1) := by decide +kernel
theorem d_Failings_renew_11 : decode prog_4_method_3_code 11 = .ok (.getfield 24, 3) := by decide +kernel
theorem d_Failings_renew_14 : decode prog_4_method_3_code 14 = .ok (.iload_n 1, 1) := by decide +kernel
theorem d_Failings_renew_15 : decode prog_4_method_3_code 15 = .ok (.aload_n 0, 1) := by decide +kernel
theorem d_Failings_renew_16 : decode prog_4_method_3_code 16 = .ok (.getfield 21, 3) := by decide +kernel
theorem d_Failings_renew_19 : decode prog_4_method_3_code 19 = .ok (.iload_n 1, 1) := by decide +kernel
theorem d_Failings_renew_20 : decode prog_4_method_3_code 20 = .ok (.iaload, 1) := by decide +kernel
theorem d_Failings_renew_21 : decode prog_4_method_3_code 21 = .ok (.iastore, 1) := by decide +kernel
theorem d_Failings_renew_22 : decode prog_4_method_3_code 22 = .ok (.iinc 1 1, 3) := by decide +kernel
theorem d_Failings_renew_25 : decode prog_4_method_3_code 25 = .ok (.goto (-23), 3) := by decide +kernel
theorem d_Failings_renew_28 : decode prog_4_method_3_code 28 = .ok (.return_, 1) := by decide +kernel
theorem d_Failings_strike_0 : decode prog_4_method_4_code 0 = .ok (.iconst 0, 1) := by decide +kernel
theorem d_Failings_strike_1 : decode prog_4_method_4_code 1 = .ok (.istore 4, 2) := by decide +kernel
theorem d_Failings_strike_3 : decode prog_4_method_4_code 3 = .ok (.iload 4, 2) := by decide +kernel
theorem d_Failings_strike_5 : decode prog_4_method_4_code 5 = .ok (.aload_n 0, 1) := by decide +kernel
theorem d_Failings_strike_6 : decode prog_4_method_4_code 6 = .ok (.getfield 27, 3) := by decide +kernel
theorem d_Failings_strike_9 : decode prog_4_method_4_code 9 = .ok (.if_icmp .ge 65, 3) := by decide +kernel
theorem d_Failings_strike_12 : decode prog_4_method_4_code 12 = .ok (.aload_n 0, 1) := by decide +kernel
theorem d_Failings_strike_13 : decode prog_4_method_4_code 13 = .ok (.getfield 9, 3) := by decide +kernel
theorem d_Failings_strike_16 : decode prog_4_method_4_code 16 = .ok (.iload 4, 2) := by decide +kernel
theorem d_Failings_strike_18 : decode prog_4_method_4_code 18 = .ok (.iaload, 1) := by decide +kernel
theorem d_Failings_strike_19 : decode prog_4_method_4_code 19 = .ok (.iload_n 1, 1) := by decide +kernel
theorem d_Failings_strike_20 : decode prog_4_method_4_code 20 = .ok (.if_icmp .ne 48, 3) := by decide +kernel
theorem d_Failings_strike_23 : decode prog_4_method_4_code 23 = .ok (.aload_n 0, 1) := by decide +kernel
theorem d_Failings_strike_24 : decode prog_4_method_4_code 24 = .ok (.getfield 15, 3) := by decide +kernel
theorem d_Failings_strike_27 : decode prog_4_method_4_code 27 = .ok (.iload 4, 2) := by decide +kernel
theorem d_Failings_strike_29 : decode prog_4_method_4_code 29 = .ok (.iaload, 1) := by decide +kernel
theorem d_Failings_strike_30 : decode prog_4_method_4_code 30 = .ok (.iload_n 2, 1) := by decide +kernel
theorem d_Failings_strike_31 : decode prog_4_method_4_code 31 = .ok (.if_icmp .ne 37, 3) := by decide +kernel
theorem d_Failings_strike_34 : decode prog_4_method_4_code 34 = .ok (.aload_n 0, 1) := by decide +kernel
theorem d_Failings_strike_35 : decode prog_4_method_4_code 35 = .ok (.getfield 18, 3) := by decide +kernel
theorem d_Failings_strike_38 : decode prog_4_method_4_code 38 = .ok (.iload 4, 2) := by decide +kernel
theorem d_Failings_strike_40 : decode prog_4_method_4_code 40 = .ok (.iaload, 1) := by decide +kernel
theorem d_Failings_strike_41 : decode prog_4_method_4_code 41 = .ok (.iload_n 3, 1) := by decide +kernel
theorem d_Failings_strike_42 : decode prog_4_method_4_code 42 = .ok (.if_icmp .ne 26, 3) := by decide +kernel
theorem d_Failings_strike_45 : decode prog_4_method_4_code 45 = .ok (.aload_n 0, 1) := by decide +kernel
theorem d_Failings_strike_46 : decode prog_4_method_4_code 46 = .ok (.getfield 24, 3) := by decide +kernel
theorem d_Failings_strike_49 : decode prog_4_method_4_code 49 = .ok (.iload 4, 2) := by decide +kernel
theorem d_Failings_strike_51 : decode prog_4_method_4_code 51 = .ok (.iaload, 1) := by decide +kernel
theorem d_Failings_strike_52 : decode prog_4_method_4_code 52 = .ok (.ifCond .le 16, 3) := by decide +kernel
theorem d_Failings_strike_55 : decode prog_4_method_4_code 55 = .ok (.aload_n 0, 1) := by decide +kernel
theorem d_Failings_strike_56 : decode prog_4_method_4_code 56 = .ok (.getfield 24, 3) := by decide +kernel
theorem d_Failings_strike_59 : decode prog_4_method_4_code 59 = .ok (.iload 4, 2) := by decide +kernel
theorem d_Failings_strike_61 : decode prog_4_method_4_code 61 = .ok (.dup2, 1) := by decide +kernel
theorem d_Failings_strike_62 : decode prog_4_method_4_code 62 = .ok (.iaload, 1) := by decide +kernel
theorem d_Failings_strike_63 : decode prog_4_method_4_code 63 = .ok (.iconst 1, 1) := by decide +kernel
theorem d_Failings_strike_64 : decode prog_4_method_4_code 64 = .ok (.isub, 1) := by decide +kernel
theorem d_Failings_strike_65 : decode prog_4_method_4_code 65 = .ok (.iastore, 1) := by decide +kernel
theorem d_Failings_strike_66 : decode prog_4_method_4_code 66 = .ok (.iconst 1, 1) := by decide +kernel
theorem d_Failings_strike_67 : decode prog_4_method_4_code 67 = .ok (.ireturn, 1) := by decide +kernel
theorem d_Failings_strike_68 : decode prog_4_method_4_code 68 = .ok (.iinc 4 1, 3) := by decide +kernel
theorem d_Failings_strike_71 : decode prog_4_method_4_code 71 = .ok (.goto (-68), 3) := by decide +kernel
theorem d_Failings_strike_74 : decode prog_4_method_4_code 74 = .ok (.iconst 0, 1) := by decide +kernel
theorem d_Failings_strike_75 : decode prog_4_method_4_code 75 = .ok (.ireturn, 1) := by decide +kernel
theorem d_Needs_add_0 : decode prog_6_method_2_code 0 = .ok (.aload_n 0, 1) := by decide +kernel
theorem d_Needs_add_1 : decode prog_6_method_2_code 1 = .ok (.getfield 9, 3) := by decide +kernel
theorem d_Needs_add_4 : decode prog_6_method_2_code 4 = .ok (.iload_n 1, 1) := by decide +kernel
theorem d_Needs_add_5 : decode prog_6_method_2_code 5 = .ok (.iaload, 1) := by decide +kernel
theorem d_Needs_add_6 : decode prog_6_method_2_code 6 = .ok (.istore 5, 2) := by decide +kernel
theorem d_Needs_add_8 : decode prog_6_method_2_code 8 = .ok (.aload_n 0, 1) := by decide +kernel
theorem d_Needs_add_9 : decode prog_6_method_2_code 9 = .ok (.getfield 17, 3) := by decide +kernel
theorem d_Needs_add_12 : decode prog_6_method_2_code 12 = .ok (.iload_n 1, 1) := by decide +kernel
theorem d_Needs_add_13 : decode prog_6_method_2_code 13 = .ok (.aaload, 1) := by decide +kernel
theorem d_Needs_add_14 : decode prog_6_method_2_code 14 = .ok (.iload 5, 2) := by decide +kernel
theorem d_Needs_add_16 : decode prog_6_method_2_code 16 = .ok (.iload_n 2, 1) := by decide +kernel
theorem d_Needs_add_17 : decode prog_6_method_2_code 17 = .ok (.iastore, 1) := by decide +kernel
theorem d_Needs_add_18 : decode prog_6_method_2_code 18 = .ok (.aload_n 0, 1) := by decide +kernel
theorem d_Needs_add_19 : decode prog_6_method_2_code 19 = .ok (.getfield 20, 3) := by decide +kernel
theorem d_Needs_add_22 : decode prog_6_method_2_code 22 = .ok (.iload_n 1, 1) := by decide +kernel
theorem d_Needs_add_23 : decode prog_6_method_2_code 23 = .ok (.aaload, 1) := by decide +kernel
theorem d_Needs_add_24 : decode prog_6_method_2_code 24 = .ok (.iload 5, 2) := by decide +kernel
theorem d_Needs_add_26 : decode prog_6_method_2_code 26 = .ok (.iload_n 3, 1) := by decide +kernel
theorem d_Needs_add_27 : decode prog_6_method_2_code 27 = .ok (.iastore, 1) := by decide +kernel
theorem d_Needs_add_28 : decode prog_6_method_2_code 28 = .ok (.aload_n 0, 1) := by decide +kernel
theorem d_Needs_add_29 : decode prog_6_method_2_code 29 = .ok (.getfield 23, 3) := by decide +kernel
theorem d_Needs_add_32 : decode prog_6_method_2_code 32 = .ok (.iload_n 1, 1) := by decide +kernel
theorem d_Needs_add_33 : decode prog_6_method_2_code 33 = .ok (.aaload, 1) := by decide +kernel
theorem d_Needs_add_34 : decode prog_6_method_2_code 34 = .ok (.iload 5, 2) := by decide +kernel
theorem d_Needs_add_36 : decode prog_6_method_2_code 36 = .ok (.iload 4, 2) := by decide +kernel
theorem d_Needs_add_38 : decode prog_6_method_2_code 38 = .ok (.iastore, 1) := by decide +kernel
theorem d_Needs_add_39 : decode prog_6_method_2_code 39 = .ok (.aload_n 0, 1) := by decide +kernel
theorem d_Needs_add_40 : decode prog_6_method_2_code 40 = .ok (.getfield 9, 3) := by decide +kernel
theorem d_Needs_add_43 : decode prog_6_method_2_code 43 = .ok (.iload_n 1, 1) := by decide +kernel
theorem d_Needs_add_44 : decode prog_6_method_2_code 44 = .ok (.iload 5, 2) := by decide +kernel
theorem d_Needs_add_46 : decode prog_6_method_2_code 46 = .ok (.iconst 1, 1) := by decide +kernel
theorem d_Needs_add_47 : decode prog_6_method_2_code 47 = .ok (.iadd, 1) := by decide +kernel
theorem d_Needs_add_48 : decode prog_6_method_2_code 48 = .ok (.iastore, 1) := by decide +kernel
theorem d_Needs_add_49 : decode prog_6_method_2_code 49 = .ok (.aload_n 0, 1) := by decide +kernel
theorem d_Needs_add_50 : decode prog_6_method_2_code 50 = .ok (.getfield 9, 3) := by decide +kernel
theorem d_Needs_add_53 : decode prog_6_method_2_code 53 = .ok (.iload_n 1, 1) := by decide +kernel
theorem d_Needs_add_54 : decode prog_6_method_2_code 54 = .ok (.iaload, 1) := by decide +kernel
theorem d_Needs_add_55 : decode prog_6_method_2_code 55 = .ok (.ireturn, 1) := by decide +kernel
theorem d_Needs_firstUnmet_0 : decode prog_6_method_3_code 0 = .ok (.iconst 0, 1) := by decide +kernel
theorem d_Needs_firstUnmet_1 : decode prog_6_method_3_code 1 = .ok (.istore 4, 2) := by decide +kernel
theorem d_Needs_firstUnmet_3 : decode prog_6_method_3_code 3 = .ok (.iload 4, 2) := by decide +kernel
theorem d_Needs_firstUnmet_5 : decode prog_6_method_3_code 5 = .ok (.aload_n 0, 1) := by decide +kernel
theorem d_Needs_firstUnmet_6 : decode prog_6_method_3_code 6 = .ok (.getfield 9, 3) := by decide +kernel
theorem d_Needs_firstUnmet_9 : decode prog_6_method_3_code 9 = .ok (.iload_n 1, 1) := by decide +kernel
theorem d_Needs_firstUnmet_10 : decode prog_6_method_3_code 10 = .ok (.iaload, 1) := by decide +kernel
theorem d_Needs_firstUnmet_11 : decode prog_6_method_3_code 11 = .ok (.if_icmp .ge 52, 3) := by decide +kernel
theorem d_Needs_firstUnmet_14 : decode prog_6_method_3_code 14 = .ok (.aload_n 0, 1) := by decide +kernel
theorem d_Needs_firstUnmet_15 : decode prog_6_method_3_code 15 = .ok (.getfield 20, 3) := by decide +kernel
theorem d_Needs_firstUnmet_18 : decode prog_6_method_3_code 18 = .ok (.iload_n 1, 1) := by decide +kernel
theorem d_Needs_firstUnmet_19 : decode prog_6_method_3_code 19 = .ok (.aaload, 1) := by decide +kernel
theorem d_Needs_firstUnmet_20 : decode prog_6_method_3_code 20 = .ok (.iload 4, 2) := by decide +kernel
theorem d_Needs_firstUnmet_22 : decode prog_6_method_3_code 22 = .ok (.iaload, 1) := by decide +kernel
theorem d_Needs_firstUnmet_23 : decode prog_6_method_3_code 23 = .ok (.istore 5, 2) := by decide +kernel
theorem d_Needs_firstUnmet_25 : decode prog_6_method_3_code 25 = .ok (.aload_n 0, 1) := by decide +kernel
theorem d_Needs_firstUnmet_26 : decode prog_6_method_3_code 26 = .ok (.getfield 17, 3) := by decide +kernel
theorem d_Needs_firstUnmet_29 : decode prog_6_method_3_code 29 = .ok (.iload_n 1, 1) := by decide +kernel
theorem d_Needs_firstUnmet_30 : decode prog_6_method_3_code 30 = .ok (.aaload, 1) := by decide +kernel
theorem d_Needs_firstUnmet_31 : decode prog_6_method_3_code 31 = .ok (.iload 4, 2) := by decide +kernel
theorem d_Needs_firstUnmet_33 : decode prog_6_method_3_code 33 = .ok (.iaload, 1) := by decide +kernel
theorem d_Needs_firstUnmet_34 : decode prog_6_method_3_code 34 = .ok (.iload_n 2, 1) := by decide +kernel
theorem d_Needs_firstUnmet_35 : decode prog_6_method_3_code 35 = .ok (.if_icmp .ne 22, 3) := by decide +kernel
theorem d_Needs_firstUnmet_38 : decode prog_6_method_3_code 38 = .ok (.aload_n 3, 1) := by decide +kernel
theorem d_Needs_firstUnmet_39 : decode prog_6_method_3_code 39 = .ok (.iload 5, 2) := by decide +kernel
theorem d_Needs_firstUnmet_41 : decode prog_6_method_3_code 41 = .ok (.iaload, 1) := by decide +kernel
theorem d_Needs_firstUnmet_42 : decode prog_6_method_3_code 42 = .ok (.aload_n 0, 1) := by decide +kernel
theorem d_Needs_firstUnmet_43 : decode prog_6_method_3_code 43 = .ok (.getfield 23, 3) := by decide +kernel
theorem d_Needs_firstUnmet_46 : decode prog_6_method_3_code 46 = .ok (.iload_n 1, 1) := by decide +kernel
theorem d_Needs_firstUnmet_47 : decode prog_6_method_3_code 47 = .ok (.aaload, 1) := by decide +kernel
theorem d_Needs_firstUnmet_48 : decode prog_6_method_3_code 48 = .ok (.iload 4, 2) := by decide +kernel
theorem d_Needs_firstUnmet_50 : decode prog_6_method_3_code 50 = .ok (.iaload, 1) := by decide +kernel
theorem d_Needs_firstUnmet_51 : decode prog_6_method_3_code 51 = .ok (.if_icmp .ge 6, 3) := by decide +kernel
theorem d_Needs_firstUnmet_54 : decode prog_6_method_3_code 54 = .ok (.iload 5, 2) := by decide +kernel
theorem d_Needs_firstUnmet_56 : decode prog_6_method_3_code 56 = .ok (.ireturn, 1) := by decide +kernel
theorem d_Needs_firstUnmet_57 : decode prog_6_method_3_code 57 = .ok (.iinc 4 1, 3) := by decide +kernel
theorem d_Needs_firstUnmet_60 : decode prog_6_method_3_code 60 = .ok (.goto (-57), 3) := by decide +kernel
theorem d_Needs_firstUnmet_63 : decode prog_6_method_3_code 63 = .ok (.iconst (-1), 1) := by decide +kernel
theorem d_Needs_firstUnmet_64 : decode prog_6_method_3_code 64 = .ok (.ireturn, 1) := by decide +kernel
theorem d_Needs_sumOfValues_0 : decode prog_6_method_4_code 0 = .ok (.lconst 0, 1) := by decide +kernel
theorem d_Needs_sumOfValues_1 : decode prog_6_method_4_code 1 = .ok (.lstore 4, 2) := by decide +kernel
theorem d_Needs_sumOfValues_3 : decode prog_6_method_4_code 3 = .ok (.iconst 0, 1) := by decide +kernel
theorem d_Needs_sumOfValues_4 : decode prog_6_method_4_code 4 = .ok (.istore 6, 2) := by decide +kernel
theorem d_Needs_sumOfValues_6 : decode prog_6_method_4_code 6 = .ok (.iload 6, 2) := by decide +kernel
theorem d_Needs_sumOfValues_8 : decode prog_6_method_4_code 8 = .ok (.aload_n 0, 1) := by decide +kernel
theorem d_Needs_sumOfValues_9 : decode prog_6_method_4_code 9 = .ok (.getfield 9, 3) := by decide +kernel
theorem d_Needs_sumOfValues_12 : decode prog_6_method_4_code 12 = .ok (.iload_n 1, 1) := by decide +kernel
theorem d_Needs_sumOfValues_13 : decode prog_6_method_4_code 13 = .ok (.iaload, 1) := by decide +kernel
theorem d_Needs_sumOfValues_14 : decode prog_6_method_4_code 14 = .ok (.if_icmp .ge 48, 3) := by decide +kernel
theorem d_Needs_sumOfValues_17 : decode prog_6_method_4_code 17 = .ok (.aload_n 0, 1) := by decide +kernel
theorem d_Needs_sumOfValues_18 : decode prog_6_method_4_code 18 = .ok (.getfield 17, 3) := by decide +kernel
theorem d_Needs_sumOfValues_21 : decode prog_6_method_4_code 21 = .ok (.iload_n 1, 1) := by decide +kernel
theorem d_Needs_sumOfValues_22 : decode prog_6_method_4_code 22 = .ok (.aaload, 1) := by decide +kernel
theorem d_Needs_sumOfValues_23 : decode prog_6_method_4_code 23 = .ok (.iload 6, 2) := by decide +kernel
theorem d_Needs_sumOfValues_25 : decode prog_6_method_4_code 25 = .ok (.iaload, 1) := by decide +kernel
theorem d_Needs_sumOfValues_26 : decode prog_6_method_4_code 26 = .ok (.iload_n 2, 1) := by decide +kernel
theorem d_Needs_sumOfValues_27 : decode prog_6_method_4_code 27 = .ok (.if_icmp .ne 29, 3) := by decide +kernel
theorem d_Needs_sumOfValues_30 : decode prog_6_method_4_code 30 = .ok (.lload 4, 2) := by decide +kernel
theorem d_Needs_sumOfValues_32 : decode prog_6_method_4_code 32 = .ok (.aload_n 3, 1) := by decide +kernel
theorem d_Needs_sumOfValues_33 : decode prog_6_method_4_code 33 = .ok (.aload_n 0, 1) := by decide +kernel
theorem d_Needs_sumOfValues_34 : decode prog_6_method_4_code 34 = .ok (.getfield 20, 3) := by decide +kernel
theorem d_Needs_sumOfValues_37 : decode prog_6_method_4_code 37 = .ok (.iload_n 1, 1) := by decide +kernel
theorem d_Needs_sumOfValues_38 : decode prog_6_method_4_code 38 = .ok (.aaload, 1) := by decide +kernel
theorem d_Needs_sumOfValues_39 : decode prog_6_method_4_code 39 = .ok (.iload 6, 2) := by decide +kernel
theorem d_Needs_sumOfValues_41 : decode prog_6_method_4_code 41 = .ok (.iaload, 1) := by decide +kernel
theorem d_Needs_sumOfValues_42 : decode prog_6_method_4_code 42 = .ok (.aaload, 1) := by decide +kernel
theorem d_Needs_sumOfValues_43 : decode prog_6_method_4_code 43 = .ok (.aload_n 0, 1) := by decide +kernel
theorem d_Needs_sumOfValues_44 : decode prog_6_method_4_code 44 = .ok (.getfield 23, 3) := by decide +kernel
theorem d_Needs_sumOfValues_47 : decode prog_6_method_4_code 47 = .ok (.iload_n 1, 1) := by decide +kernel
theorem d_Needs_sumOfValues_48 : decode prog_6_method_4_code 48 = .ok (.aaload, 1) := by decide +kernel
theorem d_Needs_sumOfValues_49 : decode prog_6_method_4_code 49 = .ok (.iload 6, 2) := by decide +kernel
theorem d_Needs_sumOfValues_51 : decode prog_6_method_4_code 51 = .ok (.iaload, 1) := by decide +kernel
theorem d_Needs_sumOfValues_52 : decode prog_6_method_4_code 52 = .ok (.laload, 1) := by decide +kernel
theorem d_Needs_sumOfValues_53 : decode prog_6_method_4_code 53 = .ok (.ladd, 1) := by decide +kernel
theorem d_Needs_sumOfValues_54 : decode prog_6_method_4_code 54 = .ok (.lstore 4, 2) := by decide +kernel
theorem d_Needs_sumOfValues_56 : decode prog_6_method_4_code 56 = .ok (.iinc 6 1, 3) := by decide +kernel
theorem d_Needs_sumOfValues_59 : decode prog_6_method_4_code 59 = .ok (.goto (-53), 3) := by decide +kernel
theorem d_Needs_sumOfValues_62 : decode prog_6_method_4_code 62 = .ok (.lload 4, 2) := by decide +kernel
theorem d_Needs_sumOfValues_64 : decode prog_6_method_4_code 64 = .ok (.lreturn, 1) := by decide +kernel
theorem fl_Crew_9 : zw_FL R_Crew 9 1 0 := ⟨R_Crew, T_Crew, 3, rfl, by decide, ly_Crew, Or.inl (zw_in (List.mem_of_getElem? (i := 189) (by decide +kernel)) (by decide +kernel))⟩
theorem fl_Crew_15 : zw_FL R_Crew 15 1 1 := ⟨R_Crew, T_Crew, 3, rfl, by decide, ly_Crew, Or.inl (zw_in (List.mem_of_getElem? (i := 191) (by decide +kernel)) (by decide +kernel))⟩
theorem fl_Crew_18 : zw_FL R_Crew 18 1 2 := ⟨R_Crew, T_Crew, 3, rfl, by decide, ly_Crew, Or.inl (zw_in (List.mem_of_getElem? (i := 193) (by decide +kernel)) (by decide +kernel))⟩
theorem fl_Failings_9 : zw_FL R_Failings 9 2 0 := ⟨R_Failings, T_Failings, 6, rfl, by decide, ly_Failings, Or.inl (zw_in (List.mem_of_getElem? (i := 95) (by decide +kernel)) (by decide +kernel))⟩
theorem fl_Failings_15 : zw_FL R_Failings 15 2 1 := ⟨R_Failings, T_Failings, 6, rfl, by decide, ly_Failings, Or.inl (zw_in (List.mem_of_getElem? (i := 96) (by decide +kernel)) (by decide +kernel))⟩
theorem fl_Failings_18 : zw_FL R_Failings 18 2 2 := ⟨R_Failings, T_Failings, 6, rfl, by decide, ly_Failings, Or.inl (zw_in (List.mem_of_getElem? (i := 97) (by decide +kernel)) (by decide +kernel))⟩
theorem fl_Failings_21 : zw_FL R_Failings 21 2 3 := ⟨R_Failings, T_Failings, 6, rfl, by decide, ly_Failings, Or.inl (zw_in (List.mem_of_getElem? (i := 98) (by decide +kernel)) (by decide +kernel))⟩
theorem fl_Failings_24 : zw_FL R_Failings 24 2 4 := ⟨R_Failings, T_Failings, 6, rfl, by decide, ly_Failings, Or.inl (zw_in (List.mem_of_getElem? (i := 99) (by decide +kernel)) (by decide +kernel))⟩
theorem fl_Failings_27 : zw_FL R_Failings 27 2 5 := ⟨R_Failings, T_Failings, 6, rfl, by decide, ly_Failings, Or.inl (zw_in (List.mem_of_getElem? (i := 100) (by decide +kernel)) (by decide +kernel))⟩
theorem fl_Line_9 : zw_FL R_Line 9 3 0 := ⟨R_Line, T_Line, 3, rfl, by decide, ly_Line, Or.inl (zw_in (List.mem_of_getElem? (i := 173) (by decide +kernel)) (by decide +kernel))⟩
theorem fl_Line_15 : zw_FL R_Line 15 3 1 := ⟨R_Line, T_Line, 3, rfl, by decide, ly_Line, Or.inl (zw_in (List.mem_of_getElem? (i := 174) (by decide +kernel)) (by decide +kernel))⟩
theorem fl_Line_19 : zw_FL R_Line 19 3 2 := ⟨R_Line, T_Line, 3, rfl, by decide, ly_Line, Or.inl (zw_in (List.mem_of_getElem? (i := 175) (by decide +kernel)) (by decide +kernel))⟩
theorem fl_Needs_9 : zw_FL R_Needs 9 4 0 := ⟨R_Needs, T_Needs, 4, rfl, by decide, ly_Needs, Or.inl (zw_in (List.mem_of_getElem? (i := 72) (by decide +kernel)) (by decide +kernel))⟩
theorem fl_Needs_17 : zw_FL R_Needs 17 4 1 := ⟨R_Needs, T_Needs, 4, rfl, by decide, ly_Needs, Or.inl (zw_in (List.mem_of_getElem? (i := 75) (by decide +kernel)) (by decide +kernel))⟩
theorem fl_Needs_20 : zw_FL R_Needs 20 4 2 := ⟨R_Needs, T_Needs, 4, rfl, by decide, ly_Needs, Or.inl (zw_in (List.mem_of_getElem? (i := 76) (by decide +kernel)) (by decide +kernel))⟩
theorem fl_Needs_23 : zw_FL R_Needs 23 4 3 := ⟨R_Needs, T_Needs, 4, rfl, by decide, ly_Needs, Or.inl (zw_in (List.mem_of_getElem? (i := 77) (by decide +kernel)) (by decide +kernel))⟩
theorem fp_Crew_18 : zw_FP R_Crew 18 1 2 (.int) false := ⟨R_Crew, T_Crew, 3, ty_Crew, rfl, by decide, ly_Crew, ty_Crew_ok, rfl, nm_Crew, rfl, Or.inl ⟨(zw_in (List.mem_of_getElem? (i := 193) (by decide +kernel)) (by decide +kernel)), fun h => by cases h⟩⟩
theorem fp_Failings_27 : zw_FP R_Failings 27 2 5 (.int) false := ⟨R_Failings, T_Failings, 6, ty_Failings, rfl, by decide, ly_Failings, ty_Failings_ok, rfl, nm_Failings, rfl, Or.inl ⟨(zw_in (List.mem_of_getElem? (i := 100) (by decide +kernel)) (by decide +kernel)), fun h => by cases h⟩⟩
theorem fp_Line_15 : zw_FP R_Line 15 3 1 (.int) false := ⟨R_Line, T_Line, 3, ty_Line, rfl, by decide, ly_Line, ty_Line_ok, rfl, nm_Line, rfl, Or.inl ⟨(zw_in (List.mem_of_getElem? (i := 174) (by decide +kernel)) (by decide +kernel)), fun h => by cases h⟩⟩
theorem fp_Line_19 : zw_FP R_Line 19 3 2 (.int) false := ⟨R_Line, T_Line, 3, ty_Line, rfl, by decide, ly_Line, ty_Line_ok, rfl, nm_Line, rfl, Or.inl ⟨(zw_in (List.mem_of_getElem? (i := 175) (by decide +kernel)) (by decide +kernel)), fun h => by cases h⟩⟩
theorem mv_Line_22 : zw_MV R_Line 22 Y_Line_wrapped R_Line 1 := ⟨Or.inl (zw_in (List.mem_of_getElem? (i := 528) (by decide +kernel)) (by decide +kernel)), (zw_in (List.mem_of_getElem? (i := 530) (by decide +kernel)) (by decide +kernel)), (zw_in (List.mem_of_getElem? (i := 9) (by decide +kernel)) (by decide +kernel)), (zw_in (List.mem_of_getElem? (i := 531) (by decide +kernel)) (by decide +kernel)), (zw_in (List.mem_of_getElem? (i := 31) (by decide +kernel)) (by decide +kernel)), by decide +kernel, by decide +kernel⟩
set_option maxHeartbeats 4000000 in
set_option maxRecDepth 100000 in
theorem c_Line_wrapped {l : Launch} {D : va_G} {cA : Nat → ClassId} {ad : Nat → Nat} {sh : zw_Sh} {n : Nat} (hn : n ≤ 16) (hs : ∀ (k : Nat) (q : zw_Sp), shX n k = some q → sh k = some q) (z : Nat) (mi : zw_I) (ml : zw_L) (x : Int32) :
    zc_M l D cA Y_Line_wrapped 0 0 0 ad sh sh z [.ref (ad 4), .int x] mi ml (some (.int (p_wrapped n x))) mi ml z := by
  refine zc_enter (own := R_Line) (by decide) rfl (Nat.le_of_ble_eq_true rfl) ?_
  intro p e s m below meth c X hr hlocks hnm hB ls hl
  have X : zw_C D cA R_Line prog_5_method_6_code 2 p m c s := X
  have hr : meth.sig.returnType = (some FieldType.int) := hr
  have hx := X.1
  have hb := X.2.1
  have hl : lv_has ls 2 [(0, .ref (ad 4)), (1, .int x)] := hl
  unfold p_wrapped
  refine lv_iload_n hx hb d_Line_wrapped_0 rfl (lv_at hl 1 rfl) ?_
  refine lv_aload_n hx hb d_Line_wrapped_1 rfl (lv_at hl 0 rfl) ?_
  refine zw_getR X hB fl_Line_9 4 (hs 4 _ rfl) rfl d_Line_wrapped_2 ?_
  refine zw_alen X hB 22 (by decide) (hs 22 _ rfl) d_Line_wrapped_5 ?_
  refine lv_icmp_ge (tgt := 13) hx hb d_Line_wrapped_6 (by decide) (fun c_6 => ?_) (fun c_6 => ?_)
  · rw [if_pos c_6]
    refine lv_iload_n hx hb d_Line_wrapped_13 rfl (lv_at hl 1 rfl) ?_
    refine lv_aload_n hx hb d_Line_wrapped_14 rfl (lv_at hl 0 rfl) ?_
    refine zw_getR X hB fl_Line_9 4 (hs 4 _ rfl) rfl d_Line_wrapped_15 ?_
    refine zw_alen X hB 22 (by decide) (hs 22 _ rfl) d_Line_wrapped_18 ?_
    refine lv_isub hx hb d_Line_wrapped_19 ?_
    exact zc_iret X hr hlocks hB (by rfl) (by rfl) (by rfl) d_Line_wrapped_20
  · rw [if_neg c_6]
    refine lv_iload_n hx hb d_Line_wrapped_9 rfl (lv_at hl 1 rfl) ?_
    refine lv_goto (tgt := 20) hx hb d_Line_wrapped_10 (by decide) ?_
    exact zc_iret X hr hlocks hB (by rfl) (by rfl) (by rfl) d_Line_wrapped_20

set_option maxHeartbeats 4000000 in
set_option maxRecDepth 100000 in
theorem c_Line_first {l : Launch} {D : va_G} {cA : Nat → ClassId} {ad : Nat → Nat} {sh : zw_Sh} {n : Nat} (hn : n ≤ 16) (hs : ∀ (k : Nat) (q : zw_Sp), shX n k = some q → sh k = some q) (z : Nat) (mi : zw_I) (ml : zw_L) (h1 : vp_in (mi 4 1) n) :
    zc_M l D cA Y_Line_first 0 0 0 ad sh sh z [.ref (ad 4)] mi ml (some (.int (p_first mi))) mi ml z := by
  refine zc_enter (own := R_Line) (by decide) rfl (Nat.le_of_ble_eq_true rfl) ?_
  intro p e s m below meth c X hr hlocks hnm hB ls hl
  have X : zw_C D cA R_Line prog_5_method_3_code 1 p m c s := X
  have hr : meth.sig.returnType = (some FieldType.int) := hr
  have hx := X.1
  have hb := X.2.1
  have hl : lv_has ls 1 [(0, .ref (ad 4))] := hl
  unfold p_first
  refine lv_aload_n hx hb d_Line_first_0 rfl (lv_at hl 0 rfl) ?_
  refine zw_getI X hB fl_Line_19 4 (hs 4 _ rfl) rfl d_Line_first_1 ?_
  refine lv_if_le (tgt := 19) hx hb d_Line_first_4 (by decide) (fun c_4 => ?_) (fun c_4 => ?_)
  · rw [if_pos c_4]
    refine lv_iconst (v := (-1)) hx hb d_Line_first_19 (by decide) ?_
    exact zc_iret X hr hlocks hB (by rfl) (by rfl) (by rfl) d_Line_first_20
  · rw [if_neg c_4]
    refine lv_aload_n hx hb d_Line_first_7 rfl (lv_at hl 0 rfl) ?_
    refine zw_getR X hB fl_Line_9 4 (hs 4 _ rfl) rfl d_Line_first_8 ?_
    refine lv_aload_n hx hb d_Line_first_11 rfl (lv_at hl 0 rfl) ?_
    refine zw_getI X hB fl_Line_15 4 (hs 4 _ rfl) rfl d_Line_first_12 ?_
    refine zw_iald X hB 22 (hs 22 _ rfl) h1 d_Line_first_15 ?_
    refine lv_goto (tgt := 20) hx hb d_Line_first_16 (by decide) ?_
    exact zc_iret X hr hlocks hB (by rfl) (by rfl) (by rfl) d_Line_first_20

set_option maxHeartbeats 4000000 in
set_option maxRecDepth 100000 in
theorem c_Line_dropFirst {l : Launch} {D : va_G} {cA : Nat → ClassId} {ad : Nat → Nat} {sh : zw_Sh} {n : Nat} (hn : n ≤ 16) (hs : ∀ (k : Nat) (q : zw_Sp), shX n k = some q → sh k = some q) (z : Nat) (mi : zw_I) (ml : zw_L) :
    zc_M l D cA Y_Line_dropFirst 1 0 0 ad sh sh z [.ref (ad 4)] mi ml none (p_drop n mi) ml z := by
  refine zc_enter (own := R_Line) (by decide) rfl (Nat.le_of_ble_eq_true rfl) ?_
  intro p e s m below meth c X hr hlocks hnm hB ls hl
  have X : zw_C D cA R_Line prog_5_method_4_code 1 p m c s := X
  have hr : meth.sig.returnType = none := hr
  have hx := X.1
  have hb := X.2.1
  have hl : lv_has ls 1 [(0, .ref (ad 4))] := hl
  unfold p_drop
  refine lv_aload_n hx hb d_Line_dropFirst_0 rfl (lv_at hl 0 rfl) ?_
  refine zw_getI X hB fl_Line_19 4 (hs 4 _ rfl) rfl d_Line_dropFirst_1 ?_
  refine lv_if_le (tgt := 31) hx hb d_Line_dropFirst_4 (by decide) (fun c_4 => ?_) (fun c_4 => ?_)
  · rw [if_pos c_4]
    exact zc_vret X hr hlocks hB (by rfl) (by rfl) (by rfl) d_Line_dropFirst_31
  · rw [if_neg c_4]
    refine lv_aload_n hx hb d_Line_dropFirst_7 rfl (lv_at hl 0 rfl) ?_
    refine lv_aload_n hx hb d_Line_dropFirst_8 rfl (lv_at hl 0 rfl) ?_
    refine lv_aload_n hx hb d_Line_dropFirst_9 rfl (lv_at hl 0 rfl) ?_
    refine zw_getI X hB fl_Line_15 4 (hs 4 _ rfl) rfl d_Line_dropFirst_10 ?_
    refine lv_iconst (v := 1) hx hb d_Line_dropFirst_13 (by decide) ?_
    refine lv_iadd hx hb d_Line_dropFirst_14 ?_
    refine zw_callVr X hB mv_Line_22 4 (hs 4 _ rfl) rfl (c_Line_wrapped hn hs z mi ml ((mi 4 1) + 1)) rfl hl.1 ⟨Nat.le_of_ble_eq_true rfl, Nat.le_of_ble_eq_true rfl⟩ rfl (Nat.le_of_ble_eq_true rfl) ⟨Nat.le_of_ble_eq_true rfl, Nat.le_of_ble_eq_true rfl⟩ d_Line_dropFirst_15 (fun H locs hB => ?_)
    refine zw_putI X hB fp_Line_15 (fun h => by cases h) 4 (hs 4 _ rfl) rfl d_Line_dropFirst_18 (fun H locs hB => ?_)
    obtain ⟨mi_1, emi_1⟩ : ∃ y, y = zw_up mi 4 1 (p_wrapped n ((mi 4 1) + 1)) := ⟨_, rfl⟩
    rw [← emi_1] at hB
    refine lv_aload_n hx hb d_Line_dropFirst_21 rfl (lv_at hl 0 rfl) ?_
    refine lv_dup hx hb d_Line_dropFirst_22 rfl ?_
    refine zw_getI X hB fl_Line_19 4 (hs 4 _ rfl) rfl d_Line_dropFirst_23 ?_
    refine lv_iconst (v := 1) hx hb d_Line_dropFirst_26 (by decide) ?_
    refine lv_isub hx hb d_Line_dropFirst_27 ?_
    refine zw_putI X hB fp_Line_19 (fun h => by cases h) 4 (hs 4 _ rfl) rfl d_Line_dropFirst_28 (fun H locs hB => ?_)
    obtain ⟨mi_2, emi_2⟩ : ∃ y, y = zw_up mi_1 4 2 ((mi_1 4 2) - 1) := ⟨_, rfl⟩
    rw [← emi_2] at hB
    exact zc_vret X hr hlocks hB (by subst emi_2; subst emi_1; rfl) (by subst emi_2; subst emi_1; rfl) (by subst emi_2; subst emi_1; rfl) d_Line_dropFirst_31

set_option maxHeartbeats 4000000 in
set_option maxRecDepth 100000 in
theorem c_Line_append {l : Launch} {D : va_G} {cA : Nat → ClassId} {ad : Nat → Nat} {sh : zw_Sh} {n : Nat} (hn : n ≤ 16) (hs : ∀ (k : Nat) (q : zw_Sp), shX n k = some q → sh k = some q) (z : Nat) (mi : zw_I) (ml : zw_L) (x : Int32) (h1 : ¬ nI n ≤ mi 4 2 → vp_in (p_wrapped n (mi 4 1 + mi 4 2)) n) :
    zc_M l D cA Y_Line_append 1 0 0 ad sh sh z [.ref (ad 4), .int x] mi ml none (p_append n mi x) ml z := by
  refine zc_enter (own := R_Line) (by decide) rfl (Nat.le_of_ble_eq_true rfl) ?_
  intro p e s m below meth c X hr hlocks hnm hB ls hl
  have X : zw_C D cA R_Line prog_5_method_5_code 2 p m c s := X
  have hr : meth.sig.returnType = none := hr
  have hx := X.1
  have hb := X.2.1
  have hl : lv_has ls 2 [(0, .ref (ad 4)), (1, .int x)] := hl
  unfold p_append
  refine lv_aload_n hx hb d_Line_append_0 rfl (lv_at hl 0 rfl) ?_
  refine zw_getI X hB fl_Line_19 4 (hs 4 _ rfl) rfl d_Line_append_1 ?_
  refine lv_aload_n hx hb d_Line_append_4 rfl (lv_at hl 0 rfl) ?_
  refine zw_getR X hB fl_Line_9 4 (hs 4 _ rfl) rfl d_Line_append_5 ?_
  refine zw_alen X hB 22 (by decide) (hs 22 _ rfl) d_Line_append_8 ?_
  refine lv_icmp_ge (tgt := 41) hx hb d_Line_append_9 (by decide) (fun c_9 => ?_) (fun c_9 => ?_)
  · rw [if_pos c_9]
    exact zc_vret X hr hlocks hB (by rfl) (by rfl) (by rfl) d_Line_append_41
  · rw [if_neg c_9]
    refine lv_aload_n hx hb d_Line_append_12 rfl (lv_at hl 0 rfl) ?_
    refine zw_getR X hB fl_Line_9 4 (hs 4 _ rfl) rfl d_Line_append_13 ?_
    refine lv_aload_n hx hb d_Line_append_16 rfl (lv_at hl 0 rfl) ?_
    refine lv_aload_n hx hb d_Line_append_17 rfl (lv_at hl 0 rfl) ?_
    refine zw_getI X hB fl_Line_15 4 (hs 4 _ rfl) rfl d_Line_append_18 ?_
    refine lv_aload_n hx hb d_Line_append_21 rfl (lv_at hl 0 rfl) ?_
    refine zw_getI X hB fl_Line_19 4 (hs 4 _ rfl) rfl d_Line_append_22 ?_
    refine lv_iadd hx hb d_Line_append_25 ?_
    refine zw_callVr X hB mv_Line_22 4 (hs 4 _ rfl) rfl (c_Line_wrapped hn hs z mi ml ((mi 4 1) + (mi 4 2))) rfl hl.1 ⟨Nat.le_of_ble_eq_true rfl, Nat.le_of_ble_eq_true rfl⟩ rfl (Nat.le_of_ble_eq_true rfl) ⟨Nat.le_of_ble_eq_true rfl, Nat.le_of_ble_eq_true rfl⟩ d_Line_append_26 (fun H locs hB => ?_)
    refine lv_iload_n hx hb d_Line_append_29 rfl (lv_at hl 1 rfl) ?_
    refine zw_iast X hB 22 (hs 22 _ rfl) (h1 c_9) d_Line_append_30 (fun H locs hB => ?_)
    obtain ⟨mi_1, emi_1⟩ : ∃ y, y = zw_up mi 22 (p_wrapped n ((mi 4 1) + (mi 4 2))).toNatClampNeg x := ⟨_, rfl⟩
    rw [← emi_1] at hB
    refine lv_aload_n hx hb d_Line_append_31 rfl (lv_at hl 0 rfl) ?_
    refine lv_dup hx hb d_Line_append_32 rfl ?_
    refine zw_getI X hB fl_Line_19 4 (hs 4 _ rfl) rfl d_Line_append_33 ?_
    refine lv_iconst (v := 1) hx hb d_Line_append_36 (by decide) ?_
    refine lv_iadd hx hb d_Line_append_37 ?_
    refine zw_putI X hB fp_Line_19 (fun h => by cases h) 4 (hs 4 _ rfl) rfl d_Line_append_38 (fun H locs hB => ?_)
    obtain ⟨mi_2, emi_2⟩ : ∃ y, y = zw_up mi_1 4 2 ((mi_1 4 2) + 1) := ⟨_, rfl⟩
    rw [← emi_2] at hB
    exact zc_vret X hr hlocks hB (by subst emi_2; subst emi_1; rfl) (by subst emi_2; subst emi_1; rfl) (by subst emi_2; subst emi_1; rfl) d_Line_append_41

set_option maxHeartbeats 4000000 in
set_option maxRecDepth 100000 in
theorem c_Line_fillByNumber {l : Launch} {D : va_G} {cA : Nat → ClassId} {ad : Nat → Nat} {sh : zw_Sh} {n : Nat} (hn : n ≤ 16) (hs : ∀ (k : Nat) (q : zw_Sp), shX n k = some q → sh k = some q) (z : Nat) (mi : zw_I) (ml : zw_L) :
    zc_M l D cA Y_Line_fillByNumber 0 0 0 ad sh sh z [.ref (ad 4)] mi ml none (p_fill n (n + 1) 0 mi) ml z := by
  refine zc_enter (own := R_Line) (by decide) rfl (Nat.le_of_ble_eq_true rfl) ?_
  intro p e s m below meth c X hr hlocks hnm hB ls hl
  have X : zw_C D cA R_Line prog_5_method_2_code 2 p m c s := X
  have hr : meth.sig.returnType = none := hr
  have hx := X.1
  have hb := X.2.1
  have hl : lv_has ls 2 [(0, .ref (ad 4))] := hl
  have loop : ∀ (f i : Nat) (mi : zw_I) (H : Heap) (locs : List Loc) (ls : Array Slot), i + f = n + 1 → i ≤ n → zw_B D cA ad sh (zw_A ad sh z) s.heap mi ml z H locs → lv_has ls 2 [(1, .int (nI i)), (0, .ref (ad 4))] →
      zc_W l D cA ad sh sh z [.ref (ad 4)] 0 0 0 none (p_fill n f (nI i) mi) ml z p e s m below meth c H locs 0 0 (F0 m 2 ls []) := by
    intro f
    induction f with
    | zero =>
      intro i  mi H locs ls hi h2 hB hl
      omega
    | succ f ih =>
      intro i  mi H locs ls hi h2 hB hl
      rw [p_fill]
      refine lv_iload_n hx hb d_Line_fillByNumber_2 rfl (lv_at hl 0 rfl) ?_
      refine lv_aload_n hx hb d_Line_fillByNumber_3 rfl (lv_at hl 1 rfl) ?_
      refine zw_getR X hB fl_Line_9 4 (hs 4 _ rfl) rfl d_Line_fillByNumber_4 ?_
      refine zw_alen X hB 22 (by decide) (hs 22 _ rfl) d_Line_fillByNumber_7 ?_
      refine lv_icmp_ge (tgt := 24) hx hb d_Line_fillByNumber_8 (by decide) (fun c_8 => ?_) (fun c_8 => ?_)
      · rw [if_pos c_8]
        refine lv_aload_n hx hb d_Line_fillByNumber_24 rfl (lv_at hl 1 rfl) ?_
        refine lv_iconst (v := 0) hx hb d_Line_fillByNumber_25 (by decide) ?_
        refine zw_putI X hB fp_Line_15 (fun h => by cases h) 4 (hs 4 _ rfl) rfl d_Line_fillByNumber_26 (fun H locs hB => ?_)
        obtain ⟨mi_1, emi_1⟩ : ∃ y, y = zw_up mi 4 1 0 := ⟨_, rfl⟩
        rw [← emi_1] at hB
        refine lv_aload_n hx hb d_Line_fillByNumber_29 rfl (lv_at hl 1 rfl) ?_
        refine lv_aload_n hx hb d_Line_fillByNumber_30 rfl (lv_at hl 1 rfl) ?_
        refine zw_getR X hB fl_Line_9 4 (hs 4 _ rfl) rfl d_Line_fillByNumber_31 ?_
        refine zw_alen X hB 22 (by decide) (hs 22 _ rfl) d_Line_fillByNumber_34 ?_
        refine zw_putI X hB fp_Line_19 (fun h => by cases h) 4 (hs 4 _ rfl) rfl d_Line_fillByNumber_35 (fun H locs hB => ?_)
        obtain ⟨mi_2, emi_2⟩ : ∃ y, y = zw_up mi_1 4 2 (nI n) := ⟨_, rfl⟩
        rw [← emi_2] at hB
        exact zc_vret X hr hlocks hB (by subst emi_2; subst emi_1; rfl) (by subst emi_2; subst emi_1; rfl) (by subst emi_2; subst emi_1; rfl) d_Line_fillByNumber_38
      · rw [if_neg c_8]
        refine lv_aload_n hx hb d_Line_fillByNumber_11 rfl (lv_at hl 1 rfl) ?_
        refine zw_getR X hB fl_Line_9 4 (hs 4 _ rfl) rfl d_Line_fillByNumber_12 ?_
        refine lv_iload_n hx hb d_Line_fillByNumber_15 rfl (lv_at hl 0 rfl) ?_
        refine lv_iload_n hx hb d_Line_fillByNumber_16 rfl (lv_at hl 0 rfl) ?_
        refine zw_iast X hB 22 (hs 22 _ rfl) (vp_in_nI (zn_lt (by omega) c_8) (by omega)) d_Line_fillByNumber_17 (fun H locs hB => ?_)
        obtain ⟨mi_3, emi_3⟩ : ∃ y, y = zw_up mi 22 (nI i).toNatClampNeg (nI i) := ⟨_, rfl⟩
        rw [← emi_3] at hB
        refine lv_iinc (v := nI (i + 1)) (lv' := [(1, .int (nI (i + 1))), (0, .ref (ad 4))]) hx hb d_Line_fillByNumber_18 hl (k := 0) rfl (nI_1 i) (by decide) rfl (fun ls hl => ?_)
        refine lv_goto (tgt := 2) hx hb d_Line_fillByNumber_21 (by decide) ?_
        subst emi_3
        rw [nI_1 i]
        exact ih (i + 1)  _ H locs ls (by omega) (by have := zn_lt (by omega) c_8; omega) hB (lv_sub hl [0, 1] rfl)
  refine lv_iconst (v := 0) hx hb d_Line_fillByNumber_0 (by decide) ?_
  refine lv_istore_n (lv' := [(1, .int 0), (0, .ref (ad 4))]) hx hb d_Line_fillByNumber_1 rfl hl (by decide) rfl (fun ls hl => ?_)
  exact loop (n + 1) 0 _ _ _ ls (by omega) (by omega) hB (lv_sub hl [0, 1] rfl)

set_option maxHeartbeats 4000000 in
set_option maxRecDepth 100000 in
theorem c_Crew_gather {l : Launch} {D : va_G} {cA : Nat → ClassId} {ad : Nat → Nat} {sh : zw_Sh} {n : Nat} (hn : n ≤ 16) (hs : ∀ (k : Nat) (q : zw_Sp), shX n k = some q → sh k = some q) (z : Nat) (mi : zw_I) (ml : zw_L) (wk : Int32) (w : Nat) (hw : w ≤ 16) (ew : wk = nI w) :
    zc_M l D cA Y_Crew_gather 0 0 0 ad sh sh z [.ref (ad 6), .int wk] mi ml none (p_gather wk 17 0 mi) ml z := by
  refine zc_enter (own := R_Crew) (by decide) rfl (Nat.le_of_ble_eq_true rfl) ?_
  intro p e s m below meth c X hr hlocks hnm hB ls hl
  have X : zw_C D cA R_Crew prog_3_method_2_code 3 p m c s := X
  have hr : meth.sig.returnType = none := hr
  have hx := X.1
  have hb := X.2.1
  have hl : lv_has ls 3 [(0, .ref (ad 6)), (1, .int wk)] := hl
  have loop : ∀ (f i : Nat) (mi : zw_I) (H : Heap) (locs : List Loc) (ls : Array Slot), i + f = 17 → i ≤ w → zw_B D cA ad sh (zw_A ad sh z) s.heap mi ml z H locs → lv_has ls 3 [(2, .int (nI i)), (0, .ref (ad 6)), (1, .int wk)] →
      zc_W l D cA ad sh sh z [.ref (ad 6), .int wk] 0 0 0 none (p_gather wk f (nI i) mi) ml z p e s m below meth c H locs 0 0 (F0 m 2 ls []) := by
    intro f
    induction f with
    | zero =>
      intro i  mi H locs ls hi h2 hB hl
      omega
    | succ f ih =>
      intro i  mi H locs ls hi h2 hB hl
      rw [p_gather]
      refine lv_iload_n hx hb d_Crew_gather_2 rfl (lv_at hl 0 rfl) ?_
      refine lv_iload_n hx hb d_Crew_gather_3 rfl (lv_at hl 2 rfl) ?_
      refine lv_icmp_ge (tgt := 27) hx hb d_Crew_gather_4 (by decide) (fun c_4 => ?_) (fun c_4 => ?_)
      · rw [if_pos c_4]
        refine lv_aload_n hx hb d_Crew_gather_27 rfl (lv_at hl 1 rfl) ?_
        refine lv_iload_n hx hb d_Crew_gather_28 rfl (lv_at hl 2 rfl) ?_
        refine zw_putI X hB fp_Crew_18 (fun h => by cases h) 6 (hs 6 _ rfl) rfl d_Crew_gather_29 (fun H locs hB => ?_)
        obtain ⟨mi_1, emi_1⟩ : ∃ y, y = zw_up mi 6 2 wk := ⟨_, rfl⟩
        rw [← emi_1] at hB
        exact zc_vret X hr hlocks hB (by subst emi_1; rfl) (by subst emi_1; rfl) (by subst emi_1; rfl) d_Crew_gather_32
      · rw [if_neg c_4]
        have hlt : i < w := zn_lt (by omega) (by rw [← ew]; exact c_4)
        have hin : vp_in (nI i) 16 := vp_in_nI (by omega) (by decide)
        refine lv_aload_n hx hb d_Crew_gather_7 rfl (lv_at hl 1 rfl) ?_
        refine zw_getR X hB fl_Crew_9 6 (hs 6 _ rfl) rfl d_Crew_gather_8 ?_
        refine lv_iload_n hx hb d_Crew_gather_11 rfl (lv_at hl 0 rfl) ?_
        refine lv_iload_n hx hb d_Crew_gather_12 rfl (lv_at hl 0 rfl) ?_
        refine zw_iast X hB 28 (hs 28 _ rfl) hin d_Crew_gather_13 (fun H locs hB => ?_)
        obtain ⟨mi_2, emi_2⟩ : ∃ y, y = zw_up mi 28 (nI i).toNatClampNeg (nI i) := ⟨_, rfl⟩
        rw [← emi_2] at hB
        refine lv_aload_n hx hb d_Crew_gather_14 rfl (lv_at hl 1 rfl) ?_
        refine zw_getR X hB fl_Crew_15 6 (hs 6 _ rfl) rfl d_Crew_gather_15 ?_
        refine lv_iload_n hx hb d_Crew_gather_18 rfl (lv_at hl 0 rfl) ?_
        refine lv_iconst (v := (-1)) hx hb d_Crew_gather_19 (by decide) ?_
        refine zw_iast X hB 29 (hs 29 _ rfl) hin d_Crew_gather_20 (fun H locs hB => ?_)
        obtain ⟨mi_3, emi_3⟩ : ∃ y, y = zw_up mi_2 29 (nI i).toNatClampNeg (-1) := ⟨_, rfl⟩
        rw [← emi_3] at hB
        refine lv_iinc (v := nI (i + 1)) (lv' := [(2, .int (nI (i + 1))), (0, .ref (ad 6)), (1, .int wk)]) hx hb d_Crew_gather_21 hl (k := 0) rfl (nI_1 i) (by decide) rfl (fun ls hl => ?_)
        refine lv_goto (tgt := 2) hx hb d_Crew_gather_24 (by decide) ?_
        subst emi_3
        subst emi_2
        rw [nI_1 i]
        exact ih (i + 1)  _ H locs ls (by omega) (by omega) hB (lv_sub hl [0, 1, 2] rfl)
  refine lv_iconst (v := 0) hx hb d_Crew_gather_0 (by decide) ?_
  refine lv_istore_n (lv' := [(2, .int 0), (0, .ref (ad 6)), (1, .int wk)]) hx hb d_Crew_gather_1 rfl hl (by decide) rfl (fun ls hl => ?_)
  exact loop 17 0 _ _ _ ls rfl (by omega) hB (lv_sub hl [0, 1, 2] rfl)

set_option maxHeartbeats 4000000 in
set_option maxRecDepth 100000 in
theorem c_Crew_whoseTurn {l : Launch} {D : va_G} {cA : Nat → ClassId} {ad : Nat → Nat} {sh : zw_Sh} {n : Nat} (hn : n ≤ 16) (hs : ∀ (k : Nat) (q : zw_Sp), shX n k = some q → sh k = some q) (z : Nat) (mi : zw_I) (ml : zw_L) (x : Int64) (h1 : ¬ mi 6 2 ≤ 0 → vp_in (p_place mi x) 16) (h2 : ¬ mi 6 2 ≤ 0 → ¬ (mi 6 2).toInt64 = 0) :
    zc_M l D cA Y_Crew_whoseTurn 0 0 0 ad sh sh z [.ref (ad 6), .long x] mi ml (some (.int (p_turn mi x))) mi ml z := by
  refine zc_enter (own := R_Crew) (by decide) rfl (Nat.le_of_ble_eq_true rfl) ?_
  intro p e s m below meth c X hr hlocks hnm hB ls hl
  have X : zw_C D cA R_Crew prog_3_method_3_code 3 p m c s := X
  have hr : meth.sig.returnType = (some FieldType.int) := hr
  have hx := X.1
  have hb := X.2.1
  have hl : lv_has ls 3 [(0, .ref (ad 6)), (1, .long x)] := hl
  unfold p_turn
  refine lv_aload_n hx hb d_Crew_whoseTurn_0 rfl (lv_at hl 0 rfl) ?_
  refine zw_getI X hB fl_Crew_18 6 (hs 6 _ rfl) rfl d_Crew_whoseTurn_1 ?_
  refine lv_if_le (tgt := 26) hx hb d_Crew_whoseTurn_4 (by decide) (fun c_4 => ?_) (fun c_4 => ?_)
  · rw [if_pos c_4]
    refine lv_iconst (v := (-1)) hx hb d_Crew_whoseTurn_26 (by decide) ?_
    exact zc_iret X hr hlocks hB (by rfl) (by rfl) (by rfl) d_Crew_whoseTurn_27
  · rw [if_neg c_4]
    refine lv_aload_n hx hb d_Crew_whoseTurn_7 rfl (lv_at hl 0 rfl) ?_
    refine zw_getR X hB fl_Crew_9 6 (hs 6 _ rfl) rfl d_Crew_whoseTurn_8 ?_
    refine lv_lload_n hx hb d_Crew_whoseTurn_11 rfl (lv_at hl 1 rfl) ?_
    refine lv_bipush (v := 33) hx hb d_Crew_whoseTurn_12 (by decide) ?_
    refine lv_lushr (v := (x.toUInt64 >>> ((33 : Int32).toInt64.toUInt64 &&& Int64.toUInt64 63)).toInt64) hx hb d_Crew_whoseTurn_14 rfl ?_
    refine lv_aload_n hx hb d_Crew_whoseTurn_15 rfl (lv_at hl 0 rfl) ?_
    refine zw_getI X hB fl_Crew_18 6 (hs 6 _ rfl) rfl d_Crew_whoseTurn_16 ?_
    refine lv_i2l (v := (mi 6 2).toInt64) hx hb d_Crew_whoseTurn_19 rfl ?_
    refine lv_lrem hx hb d_Crew_whoseTurn_20 (h2 c_4) ?_
    refine lv_l2i (v := (((x.toUInt64 >>> ((33 : Int32).toInt64.toUInt64 &&& Int64.toUInt64 63)).toInt64) - ((x.toUInt64 >>> ((33 : Int32).toInt64.toUInt64 &&& Int64.toUInt64 63)).toInt64) / ((mi 6 2).toInt64) * ((mi 6 2).toInt64)).toInt32) hx hb d_Crew_whoseTurn_21 rfl ?_
    refine zw_iald X hB 28 (hs 28 _ rfl) (h1 c_4) d_Crew_whoseTurn_22 ?_
    refine lv_goto (tgt := 27) hx hb d_Crew_whoseTurn_23 (by decide) ?_
    exact zc_iret X hr hlocks hB (by rfl) (by rfl) (by rfl) d_Crew_whoseTurn_27

set_option maxHeartbeats 4000000 in
set_option maxRecDepth 100000 in
theorem c_Crew_lose {l : Launch} {D : va_G} {cA : Nat → ClassId} {ad : Nat → Nat} {sh : zw_Sh} {n : Nat} (hn : n ≤ 16) (hs : ∀ (k : Nat) (q : zw_Sp), shX n k = some q → sh k = some q) (z : Nat) (mi : zw_I) (ml : zw_L) (wk : Int32) (w : Nat) (hw : w ≤ 16) (ew : mi 6 2 = nI w) :
    zc_M l D cA Y_Crew_lose 0 0 0 ad sh sh z [.ref (ad 6), .int wk] mi ml none (p_lose wk 17 0 0 mi) ml z := by
  refine zc_enter (own := R_Crew) (by decide) rfl (Nat.le_of_ble_eq_true rfl) ?_
  intro p e s m below meth c X hr hlocks hnm hB ls hl
  have X : zw_C D cA R_Crew prog_3_method_4_code 4 p m c s := X
  have hr : meth.sig.returnType = none := hr
  have hx := X.1
  have hb := X.2.1
  have hl : lv_has ls 4 [(0, .ref (ad 6)), (1, .int wk)] := hl
  have loop : ∀ (f i : Nat) (q : Nat) (mi : zw_I) (H : Heap) (locs : List Loc) (ls : Array Slot), i + f = 17 → i ≤ w → q ≤ i → mi 6 2 = nI w → zw_B D cA ad sh (zw_A ad sh z) s.heap mi ml z H locs → lv_has ls 4 [(3, .int (nI i)), (2, .int (nI q)), (0, .ref (ad 6)), (1, .int wk)] →
      zc_W l D cA ad sh sh z [.ref (ad 6), .int wk] 0 0 0 none (p_lose wk f (nI q) (nI i) mi) ml z p e s m below meth c H locs 0 0 (F0 m 4 ls []) := by
    intro f
    induction f with
    | zero =>
      intro i q mi H locs ls hi h2 hq ew hB hl
      omega
    | succ f ih =>
      intro i q mi H locs ls hi h2 hq ew hB hl
      rw [p_lose]
      refine lv_iload_n hx hb d_Crew_lose_4 rfl (lv_at hl 0 rfl) ?_
      refine lv_aload_n hx hb d_Crew_lose_5 rfl (lv_at hl 2 rfl) ?_
      refine zw_getI X hB fl_Crew_18 6 (hs 6 _ rfl) rfl d_Crew_lose_6 ?_
      refine lv_icmp_ge (tgt := 43) hx hb d_Crew_lose_9 (by decide) (fun c_9 => ?_) (fun c_9 => ?_)
      · rw [if_pos c_9]
        refine lv_aload_n hx hb d_Crew_lose_43 rfl (lv_at hl 2 rfl) ?_
        refine lv_iload_n hx hb d_Crew_lose_44 rfl (lv_at hl 1 rfl) ?_
        refine zw_putI X hB fp_Crew_18 (fun h => by cases h) 6 (hs 6 _ rfl) rfl d_Crew_lose_45 (fun H locs hB => ?_)
        obtain ⟨mi_1, emi_1⟩ : ∃ y, y = zw_up mi 6 2 (nI q) := ⟨_, rfl⟩
        rw [← emi_1] at hB
        exact zc_vret X hr hlocks hB (by subst emi_1; rfl) (by subst emi_1; rfl) (by subst emi_1; rfl) d_Crew_lose_48
      · rw [if_neg c_9]
        have hlt : i < w := zn_lt (by omega) (by rw [← ew]; exact c_9)
        have hin : vp_in (nI i) 16 := vp_in_nI (by omega) (by decide)
        have hinq : vp_in (nI q) 16 := vp_in_nI (by omega) (by decide)
        refine lv_aload_n hx hb d_Crew_lose_12 rfl (lv_at hl 2 rfl) ?_
        refine zw_getR X hB fl_Crew_9 6 (hs 6 _ rfl) rfl d_Crew_lose_13 ?_
        refine lv_iload_n hx hb d_Crew_lose_16 rfl (lv_at hl 0 rfl) ?_
        refine zw_iald X hB 28 (hs 28 _ rfl) hin d_Crew_lose_17 ?_
        refine lv_iload_n hx hb d_Crew_lose_18 rfl (lv_at hl 3 rfl) ?_
        refine lv_icmp_eq (tgt := 37) hx hb d_Crew_lose_19 (by decide) (fun c_19 => ?_) (fun c_19 => ?_)
        · rw [if_pos c_19]
          refine lv_iinc (v := nI (i + 1)) (lv' := [(3, .int (nI (i + 1))), (2, .int (nI q)), (0, .ref (ad 6)), (1, .int wk)]) hx hb d_Crew_lose_37 hl (k := 0) rfl (nI_1 i) (by decide) rfl (fun ls hl => ?_)
          refine lv_goto (tgt := 4) hx hb d_Crew_lose_40 (by decide) ?_
          rw [nI_1 i]
          exact ih (i + 1) q _ H locs ls (by omega) (by omega) (by omega) (by first | assumption | simpa [zw_up] using ew) hB (lv_sub hl [0, 1, 2, 3] rfl)
        · rw [if_neg c_19]
          refine lv_aload_n hx hb d_Crew_lose_22 rfl (lv_at hl 2 rfl) ?_
          refine zw_getR X hB fl_Crew_9 6 (hs 6 _ rfl) rfl d_Crew_lose_23 ?_
          refine lv_iload_n hx hb d_Crew_lose_26 rfl (lv_at hl 1 rfl) ?_
          refine lv_aload_n hx hb d_Crew_lose_27 rfl (lv_at hl 2 rfl) ?_
          refine zw_getR X hB fl_Crew_9 6 (hs 6 _ rfl) rfl d_Crew_lose_28 ?_
          refine lv_iload_n hx hb d_Crew_lose_31 rfl (lv_at hl 0 rfl) ?_
          refine zw_iald X hB 28 (hs 28 _ rfl) hin d_Crew_lose_32 ?_
          refine zw_iast X hB 28 (hs 28 _ rfl) hinq d_Crew_lose_33 (fun H locs hB => ?_)
          obtain ⟨mi_2, emi_2⟩ : ∃ y, y = zw_up mi 28 (nI q).toNatClampNeg (mi 28 (nI i).toNatClampNeg) := ⟨_, rfl⟩
          rw [← emi_2] at hB
          refine lv_iinc (v := nI (q + 1)) (lv' := [(2, .int (nI (q + 1))), (3, .int (nI i)), (0, .ref (ad 6)), (1, .int wk)]) hx hb d_Crew_lose_34 hl (k := 1) rfl (nI_1 q) (by decide) rfl (fun ls hl => ?_)
          refine lv_iinc (v := nI (i + 1)) (lv' := [(3, .int (nI (i + 1))), (2, .int (nI (q + 1))), (0, .ref (ad 6)), (1, .int wk)]) hx hb d_Crew_lose_37 hl (k := 1) rfl (nI_1 i) (by decide) rfl (fun ls hl => ?_)
          refine lv_goto (tgt := 4) hx hb d_Crew_lose_40 (by decide) ?_
          subst emi_2
          rw [nI_1 i, nI_1 q]
          exact ih (i + 1) (q + 1) _ H locs ls (by omega) (by omega) (by omega) (by first | assumption | simpa [zw_up] using ew) hB (lv_sub hl [0, 1, 2, 3] rfl)
  refine lv_iconst (v := 0) hx hb d_Crew_lose_0 (by decide) ?_
  refine lv_istore_n (lv' := [(2, .int 0), (0, .ref (ad 6)), (1, .int wk)]) hx hb d_Crew_lose_1 rfl hl (by decide) rfl (fun ls hl => ?_)
  refine lv_iconst (v := 0) hx hb d_Crew_lose_2 (by decide) ?_
  refine lv_istore_n (lv' := [(3, .int 0), (2, .int 0), (0, .ref (ad 6)), (1, .int wk)]) hx hb d_Crew_lose_3 rfl hl (by decide) rfl (fun ls hl => ?_)
  exact loop 17 0 0 _ _ _ ls rfl (by omega) (by omega) ew hB (lv_sub hl [0, 1, 2, 3] rfl)

set_option maxHeartbeats 4000000 in
set_option maxRecDepth 100000 in
theorem c_Failings_add {l : Launch} {D : va_G} {cA : Nat → ClassId} {ad : Nat → Nat} {sh : zw_Sh} {n : Nat} (hn : n ≤ 16) (hs : ∀ (k : Nat) (q : zw_Sp), shX n k = some q → sh k = some q) (z : Nat) (mi : zw_I) (ml : zw_L) (w : Int32) (x : Int32) (s0 : Int32) (t : Int32) (h5 : vp_in (mi 3 5) 8) :
    zc_M l D cA Y_Failings_add 0 0 0 ad sh sh z [.ref (ad 3), .int w, .int x, .int s0, .int t] mi ml (some (.int (p_fadd w x s0 t mi 3 5))) (p_fadd w x s0 t mi) ml z := by
  refine zc_enter (own := R_Failings) (by decide) rfl (Nat.le_of_ble_eq_true rfl) ?_
  intro p e s m below meth c X hr hlocks hnm hB ls hl
  have X : zw_C D cA R_Failings prog_4_method_2_code 5 p m c s := X
  have hr : meth.sig.returnType = (some FieldType.int) := hr
  have hx := X.1
  have hb := X.2.1
  have hl : lv_has ls 5 [(0, .ref (ad 3)), (1, .int w), (2, .int x), (3, .int s0), (4, .int t)] := hl
  refine lv_aload_n hx hb d_Failings_add_0 rfl (lv_at hl 0 rfl) ?_
  refine zw_getR X hB fl_Failings_9 3 (hs 3 _ rfl) rfl d_Failings_add_1 ?_
  refine lv_aload_n hx hb d_Failings_add_4 rfl (lv_at hl 0 rfl) ?_
  refine zw_getI X hB fl_Failings_27 3 (hs 3 _ rfl) rfl d_Failings_add_5 ?_
  refine lv_iload_n hx hb d_Failings_add_8 rfl (lv_at hl 1 rfl) ?_
  refine zw_iast X hB 14 (hs 14 _ rfl) h5 d_Failings_add_9 (fun H locs hB => ?_)
  obtain ⟨mi_1, emi_1⟩ : ∃ y, y = zw_up mi 14 (mi 3 5).toNatClampNeg w := ⟨_, rfl⟩
  rw [← emi_1] at hB
  refine lv_aload_n hx hb d_Failings_add_10 rfl (lv_at hl 0 rfl) ?_
  refine zw_getR X hB fl_Failings_15 3 (hs 3 _ rfl) rfl d_Failings_add_11 ?_
  refine lv_aload_n hx hb d_Failings_add_14 rfl (lv_at hl 0 rfl) ?_
  refine zw_getI X hB fl_Failings_27 3 (hs 3 _ rfl) rfl d_Failings_add_15 ?_
  refine lv_iload_n hx hb d_Failings_add_18 rfl (lv_at hl 2 rfl) ?_
  refine zw_iast X hB 15 (hs 15 _ rfl) (by subst_vars; simpa [zw_up] using h5) d_Failings_add_19 (fun H locs hB => ?_)
  obtain ⟨mi_2, emi_2⟩ : ∃ y, y = zw_up mi_1 15 (mi_1 3 5).toNatClampNeg x := ⟨_, rfl⟩
  rw [← emi_2] at hB
  refine lv_aload_n hx hb d_Failings_add_20 rfl (lv_at hl 0 rfl) ?_
  refine zw_getR X hB fl_Failings_18 3 (hs 3 _ rfl) rfl d_Failings_add_21 ?_
  refine lv_aload_n hx hb d_Failings_add_24 rfl (lv_at hl 0 rfl) ?_
  refine zw_getI X hB fl_Failings_27 3 (hs 3 _ rfl) rfl d_Failings_add_25 ?_
  refine lv_iload_n hx hb d_Failings_add_28 rfl (lv_at hl 3 rfl) ?_
  refine zw_iast X hB 16 (hs 16 _ rfl) (by subst_vars; simpa [zw_up] using h5) d_Failings_add_29 (fun H locs hB => ?_)
  obtain ⟨mi_3, emi_3⟩ : ∃ y, y = zw_up mi_2 16 (mi_2 3 5).toNatClampNeg s0 := ⟨_, rfl⟩
  rw [← emi_3] at hB
  refine lv_aload_n hx hb d_Failings_add_30 rfl (lv_at hl 0 rfl) ?_
  refine zw_getR X hB fl_Failings_21 3 (hs 3 _ rfl) rfl d_Failings_add_31 ?_
  refine lv_aload_n hx hb d_Failings_add_34 rfl (lv_at hl 0 rfl) ?_
  refine zw_getI X hB fl_Failings_27 3 (hs 3 _ rfl) rfl d_Failings_add_35 ?_
  refine lv_iload hx hb d_Failings_add_38 (lv_at hl 4 rfl) ?_
  refine zw_iast X hB 17 (hs 17 _ rfl) (by subst_vars; simpa [zw_up] using h5) d_Failings_add_40 (fun H locs hB => ?_)
  obtain ⟨mi_4, emi_4⟩ : ∃ y, y = zw_up mi_3 17 (mi_3 3 5).toNatClampNeg t := ⟨_, rfl⟩
  rw [← emi_4] at hB
  refine lv_aload_n hx hb d_Failings_add_41 rfl (lv_at hl 0 rfl) ?_
  refine lv_dup hx hb d_Failings_add_42 rfl ?_
  refine zw_getI X hB fl_Failings_27 3 (hs 3 _ rfl) rfl d_Failings_add_43 ?_
  refine lv_iconst (v := 1) hx hb d_Failings_add_46 (by decide) ?_
  refine lv_iadd hx hb d_Failings_add_47 ?_
  refine zw_putI X hB fp_Failings_27 (fun h => by cases h) 3 (hs 3 _ rfl) rfl d_Failings_add_48 (fun H locs hB => ?_)
  obtain ⟨mi_5, emi_5⟩ : ∃ y, y = zw_up mi_4 3 5 ((mi_4 3 5) + 1) := ⟨_, rfl⟩
  rw [← emi_5] at hB
  refine lv_aload_n hx hb d_Failings_add_51 rfl (lv_at hl 0 rfl) ?_
  refine zw_getI X hB fl_Failings_27 3 (hs 3 _ rfl) rfl d_Failings_add_52 ?_
  exact zc_iret X hr hlocks hB (by subst emi_5; subst emi_4; subst emi_3; subst emi_2; subst emi_1; rfl) (by subst emi_5; subst emi_4; subst emi_3; subst emi_2; subst emi_1; rfl) (by subst emi_5; subst emi_4; subst emi_3; subst emi_2; subst emi_1; rfl) d_Failings_add_55

set_option maxHeartbeats 4000000 in
set_option maxRecDepth 100000 in
theorem c_Failings_renew {l : Launch} {D : va_G} {cA : Nat → ClassId} {ad : Nat → Nat} {sh : zw_Sh} {n : Nat} (hn : n ≤ 16) (hs : ∀ (k : Nat) (q : zw_Sp), shX n k = some q → sh k = some q) (z : Nat) (mi : zw_I) (ml : zw_L) (w : Nat) (hw : w ≤ 8) (ew : mi 3 5 = nI w) :
    zc_M l D cA Y_Failings_renew 0 0 0 ad sh sh z [.ref (ad 3)] mi ml none (p_renew 9 0 mi) ml z := by
  refine zc_enter (own := R_Failings) (by decide) rfl (Nat.le_of_ble_eq_true rfl) ?_
  intro p e s m below meth c X hr hlocks hnm hB ls hl
  have X : zw_C D cA R_Failings prog_4_method_3_code 2 p m c s := X
  have hr : meth.sig.returnType = none := hr
  have hx := X.1
  have hb := X.2.1
  have hl : lv_has ls 2 [(0, .ref (ad 3))] := hl
  have loop : ∀ (f i : Nat) (mi : zw_I) (H : Heap) (locs : List Loc) (ls : Array Slot), i + f = 9 → i ≤ w → mi 3 5 = nI w → zw_B D cA ad sh (zw_A ad sh z) s.heap mi ml z H locs → lv_has ls 2 [(1, .int (nI i)), (0, .ref (ad 3))] →
      zc_W l D cA ad sh sh z [.ref (ad 3)] 0 0 0 none (p_renew f (nI i) mi) ml z p e s m below meth c H locs 0 0 (F0 m 2 ls []) := by
    intro f
    induction f with
    | zero =>
      intro i  mi H locs ls hi h2 ew hB hl
      omega
    | succ f ih =>
      intro i  mi H locs ls hi h2 ew hB hl
      rw [p_renew]
      refine lv_iload_n hx hb d_Failings_renew_2 rfl (lv_at hl 0 rfl) ?_
      refine lv_aload_n hx hb d_Failings_renew_3 rfl (lv_at hl 1 rfl) ?_
      refine zw_getI X hB fl_Failings_27 3 (hs 3 _ rfl) rfl d_Failings_renew_4 ?_
      refine lv_icmp_ge (tgt := 28) hx hb d_Failings_renew_7 (by decide) (fun c_7 => ?_) (fun c_7 => ?_)
      · rw [if_pos c_7]
        exact zc_vret X hr hlocks hB (by rfl) (by rfl) (by rfl) d_Failings_renew_28
      · rw [if_neg c_7]
        have hlt : i < w := zn_lt (by omega) (by rw [← ew]; exact c_7)
        have hin : vp_in (nI i) 8 := vp_in_nI (by omega) (by decide)
        refine lv_aload_n hx hb d_Failings_renew_10 rfl (lv_at hl 1 rfl) ?_
        refine zw_getR X hB fl_Failings_24 3 (hs 3 _ rfl) rfl d_Failings_renew_11 ?_
        refine lv_iload_n hx hb d_Failings_renew_14 rfl (lv_at hl 0 rfl) ?_
        refine lv_aload_n hx hb d_Failings_renew_15 rfl (lv_at hl 1 rfl) ?_
        refine zw_getR X hB fl_Failings_21 3 (hs 3 _ rfl) rfl d_Failings_renew_16 ?_
        refine lv_iload_n hx hb d_Failings_renew_19 rfl (lv_at hl 0 rfl) ?_
        refine zw_iald X hB 17 (hs 17 _ rfl) hin d_Failings_renew_20 ?_
        refine zw_iast X hB 18 (hs 18 _ rfl) hin d_Failings_renew_21 (fun H locs hB => ?_)
        obtain ⟨mi_1, emi_1⟩ : ∃ y, y = zw_up mi 18 (nI i).toNatClampNeg (mi 17 (nI i).toNatClampNeg) := ⟨_, rfl⟩
        rw [← emi_1] at hB
        refine lv_iinc (v := nI (i + 1)) (lv' := [(1, .int (nI (i + 1))), (0, .ref (ad 3))]) hx hb d_Failings_renew_22 hl (k := 0) rfl (nI_1 i) (by decide) rfl (fun ls hl => ?_)
        refine lv_goto (tgt := 2) hx hb d_Failings_renew_25 (by decide) ?_
        subst emi_1
        rw [nI_1 i]
        exact ih (i + 1)  _ H locs ls (by omega) (by omega) (by simpa [zw_up] using ew) hB (lv_sub hl [0, 1] rfl)
  refine lv_iconst (v := 0) hx hb d_Failings_renew_0 (by decide) ?_
  refine lv_istore_n (lv' := [(1, .int 0), (0, .ref (ad 3))]) hx hb d_Failings_renew_1 rfl hl (by decide) rfl (fun ls hl => ?_)
  exact loop 9 0 _ _ _ ls rfl (by omega) ew hB (lv_sub hl [0, 1] rfl)

set_option maxHeartbeats 4000000 in
set_option maxRecDepth 100000 in
theorem c_Failings_strike {l : Launch} {D : va_G} {cA : Nat → ClassId} {ad : Nat → Nat} {sh : zw_Sh} {n : Nat} (hn : n ≤ 16) (hs : ∀ (k : Nat) (q : zw_Sp), shX n k = some q → sh k = some q) (z : Nat) (mi : zw_I) (ml : zw_L) (w0 : Int32) (x : Int32) (s0 : Int32) (w : Nat) (hw : w ≤ 8) (ew : mi 3 5 = nI w) :
    zc_M l D cA Y_Failings_strike 0 0 0 ad sh sh z [.ref (ad 3), .int w0, .int x, .int s0] mi ml (some (.int ((p_strike w0 x s0 mi 9 0).1))) ((p_strike w0 x s0 mi 9 0).2) ml z := by
  refine zc_enter (own := R_Failings) (by decide) rfl (Nat.le_of_ble_eq_true rfl) ?_
  intro p e s m below meth c X hr hlocks hnm hB ls hl
  have X : zw_C D cA R_Failings prog_4_method_4_code 5 p m c s := X
  have hr : meth.sig.returnType = (some FieldType.boolean) := hr
  have hx := X.1
  have hb := X.2.1
  have hl : lv_has ls 5 [(0, .ref (ad 3)), (1, .int w0), (2, .int x), (3, .int s0)] := hl
  have loop : ∀ (f i : Nat)  (H : Heap) (locs : List Loc) (ls : Array Slot), i + f = 9 → i ≤ w → zw_B D cA ad sh (zw_A ad sh z) s.heap mi ml z H locs → lv_has ls 5 [(4, .int (nI i)), (0, .ref (ad 3)), (1, .int w0), (2, .int x), (3, .int s0)] →
      zc_W l D cA ad sh sh z [.ref (ad 3), .int w0, .int x, .int s0] 0 0 0 (some (.int ((p_strike w0 x s0 mi f (nI i)).1))) ((p_strike w0 x s0 mi f (nI i)).2) ml z p e s m below meth c H locs 0 0 (F0 m 3 ls []) := by
    intro f
    induction f with
    | zero =>
      intro i   H locs ls hi h2 hB hl
      omega
    | succ f ih =>
      intro i   H locs ls hi h2 hB hl
      rw [p_strike]
      refine lv_iload hx hb d_Failings_strike_3 (lv_at hl 0 rfl) ?_
      refine lv_aload_n hx hb d_Failings_strike_5 rfl (lv_at hl 1 rfl) ?_
      refine zw_getI X hB fl_Failings_27 3 (hs 3 _ rfl) rfl d_Failings_strike_6 ?_
      refine lv_icmp_ge (tgt := 74) hx hb d_Failings_strike_9 (by decide) (fun c_9 => ?_) (fun c_9 => ?_)
      · rw [if_pos c_9]
        refine lv_iconst (v := 0) hx hb d_Failings_strike_74 (by decide) ?_
        exact zc_zret X hr hlocks hB (by rfl) (by rfl) (by rfl) (by rfl) d_Failings_strike_75
      · rw [if_neg c_9]
        have hlt : i < w := zn_lt (by omega) (by rw [← ew]; exact c_9)
        have hin : vp_in (nI i) 8 := vp_in_nI (by omega) (by decide)
        refine lv_aload_n hx hb d_Failings_strike_12 rfl (lv_at hl 1 rfl) ?_
        refine zw_getR X hB fl_Failings_9 3 (hs 3 _ rfl) rfl d_Failings_strike_13 ?_
        refine lv_iload hx hb d_Failings_strike_16 (lv_at hl 0 rfl) ?_
        refine zw_iald X hB 14 (hs 14 _ rfl) hin d_Failings_strike_18 ?_
        refine lv_iload_n hx hb d_Failings_strike_19 rfl (lv_at hl 2 rfl) ?_
        refine lv_icmp_ne (tgt := 68) hx hb d_Failings_strike_20 (by decide) (fun c_20 => ?_) (fun c_20 => ?_)
        · rw [if_neg c_20]
          refine lv_iinc (v := nI (i + 1)) (lv' := [(4, .int (nI (i + 1))), (0, .ref (ad 3)), (1, .int w0), (2, .int x), (3, .int s0)]) hx hb d_Failings_strike_68 hl (k := 0) rfl (nI_1 i) (by decide) rfl (fun ls hl => ?_)
          refine lv_goto (tgt := 3) hx hb d_Failings_strike_71 (by decide) ?_
          rw [nI_1 i]
          exact ih (i + 1)   H locs ls (by omega) (by omega) hB (lv_sub hl [0, 1, 2, 3, 4] rfl)
        · rw [if_pos c_20]
          refine lv_aload_n hx hb d_Failings_strike_23 rfl (lv_at hl 1 rfl) ?_
          refine zw_getR X hB fl_Failings_15 3 (hs 3 _ rfl) rfl d_Failings_strike_24 ?_
          refine lv_iload hx hb d_Failings_strike_27 (lv_at hl 0 rfl) ?_
          refine zw_iald X hB 15 (hs 15 _ rfl) hin d_Failings_strike_29 ?_
          refine lv_iload_n hx hb d_Failings_strike_30 rfl (lv_at hl 3 rfl) ?_
          refine lv_icmp_ne (tgt := 68) hx hb d_Failings_strike_31 (by decide) (fun c_31 => ?_) (fun c_31 => ?_)
          · rw [if_neg c_31]
            refine lv_iinc (v := nI (i + 1)) (lv' := [(4, .int (nI (i + 1))), (0, .ref (ad 3)), (1, .int w0), (2, .int x), (3, .int s0)]) hx hb d_Failings_strike_68 hl (k := 0) rfl (nI_1 i) (by decide) rfl (fun ls hl => ?_)
            refine lv_goto (tgt := 3) hx hb d_Failings_strike_71 (by decide) ?_
            rw [nI_1 i]
            exact ih (i + 1)   H locs ls (by omega) (by omega) hB (lv_sub hl [0, 1, 2, 3, 4] rfl)
          · rw [if_pos c_31]
            refine lv_aload_n hx hb d_Failings_strike_34 rfl (lv_at hl 1 rfl) ?_
            refine zw_getR X hB fl_Failings_18 3 (hs 3 _ rfl) rfl d_Failings_strike_35 ?_
            refine lv_iload hx hb d_Failings_strike_38 (lv_at hl 0 rfl) ?_
            refine zw_iald X hB 16 (hs 16 _ rfl) hin d_Failings_strike_40 ?_
            refine lv_iload_n hx hb d_Failings_strike_41 rfl (lv_at hl 4 rfl) ?_
            refine lv_icmp_ne (tgt := 68) hx hb d_Failings_strike_42 (by decide) (fun c_42 => ?_) (fun c_42 => ?_)
            · rw [if_neg c_42]
              refine lv_iinc (v := nI (i + 1)) (lv' := [(4, .int (nI (i + 1))), (0, .ref (ad 3)), (1, .int w0), (2, .int x), (3, .int s0)]) hx hb d_Failings_strike_68 hl (k := 0) rfl (nI_1 i) (by decide) rfl (fun ls hl => ?_)
              refine lv_goto (tgt := 3) hx hb d_Failings_strike_71 (by decide) ?_
              rw [nI_1 i]
              exact ih (i + 1)   H locs ls (by omega) (by omega) hB (lv_sub hl [0, 1, 2, 3, 4] rfl)
            · rw [if_pos c_42]
              refine lv_aload_n hx hb d_Failings_strike_45 rfl (lv_at hl 1 rfl) ?_
              refine zw_getR X hB fl_Failings_24 3 (hs 3 _ rfl) rfl d_Failings_strike_46 ?_
              refine lv_iload hx hb d_Failings_strike_49 (lv_at hl 0 rfl) ?_
              refine zw_iald X hB 18 (hs 18 _ rfl) hin d_Failings_strike_51 ?_
              refine lv_if_le (tgt := 68) hx hb d_Failings_strike_52 (by decide) (fun c_52 => ?_) (fun c_52 => ?_)
              · rw [if_pos c_52]
                refine lv_iinc (v := nI (i + 1)) (lv' := [(4, .int (nI (i + 1))), (0, .ref (ad 3)), (1, .int w0), (2, .int x), (3, .int s0)]) hx hb d_Failings_strike_68 hl (k := 0) rfl (nI_1 i) (by decide) rfl (fun ls hl => ?_)
                refine lv_goto (tgt := 3) hx hb d_Failings_strike_71 (by decide) ?_
                rw [nI_1 i]
                exact ih (i + 1)   H locs ls (by omega) (by omega) hB (lv_sub hl [0, 1, 2, 3, 4] rfl)
              · rw [if_neg c_52]
                refine lv_aload_n hx hb d_Failings_strike_55 rfl (lv_at hl 1 rfl) ?_
                refine zw_getR X hB fl_Failings_24 3 (hs 3 _ rfl) rfl d_Failings_strike_56 ?_
                refine lv_iload hx hb d_Failings_strike_59 (lv_at hl 0 rfl) ?_
                refine lv_dup2_11 hx hb d_Failings_strike_61 rfl rfl ?_
                refine zw_iald X hB 18 (hs 18 _ rfl) hin d_Failings_strike_62 ?_
                refine lv_iconst (v := 1) hx hb d_Failings_strike_63 (by decide) ?_
                refine lv_isub hx hb d_Failings_strike_64 ?_
                refine zw_iast X hB 18 (hs 18 _ rfl) hin d_Failings_strike_65 (fun H locs hB => ?_)
                obtain ⟨mi_1, emi_1⟩ : ∃ y, y = zw_up mi 18 (nI i).toNatClampNeg ((mi 18 (nI i).toNatClampNeg) - 1) := ⟨_, rfl⟩
                rw [← emi_1] at hB
                refine lv_iconst (v := 1) hx hb d_Failings_strike_66 (by decide) ?_
                exact zc_zret X hr hlocks hB (by rfl) (by subst emi_1; rfl) (by subst emi_1; rfl) (by subst emi_1; rfl) d_Failings_strike_67
  refine lv_iconst (v := 0) hx hb d_Failings_strike_0 (by decide) ?_
  refine lv_istore (lv' := [(4, .int 0), (0, .ref (ad 3)), (1, .int w0), (2, .int x), (3, .int s0)]) hx hb d_Failings_strike_1 hl (by decide) rfl (fun ls hl => ?_)
  exact loop 9 0  _ _ ls rfl (by omega) hB (lv_sub hl [0, 1, 2, 3, 4] rfl)

set_option maxHeartbeats 4000000 in
set_option maxRecDepth 100000 in
theorem c_Needs_add {l : Launch} {D : va_G} {cA : Nat → ClassId} {ad : Nat → Nat} {sh : zw_Sh} {n : Nat} (hn : n ≤ 16) (hs : ∀ (k : Nat) (q : zw_Sp), shX n k = some q → sh k = some q) (z : Nat) (mi : zw_I) (ml : zw_L) (x : Int32) (s0 : Int32) (o : Int32) (m0 : Int32) (h1 : vp_in x n) (h2 : vp_in (mi 10 x.toNatClampNeg) 6) :
    zc_M l D cA Y_Needs_add 0 0 0 ad sh sh z [.ref (ad 2), .int x, .int s0, .int o, .int m0] mi ml (some (.int (p_nadd x s0 o m0 mi 10 x.toNatClampNeg))) (p_nadd x s0 o m0 mi) ml z := by
  refine zc_enter (own := R_Needs) (by decide) rfl (Nat.le_of_ble_eq_true rfl) ?_
  intro p e s m below meth c X hr hlocks hnm hB ls hl
  have X : zw_C D cA R_Needs prog_6_method_2_code 6 p m c s := X
  have hr : meth.sig.returnType = (some FieldType.int) := hr
  have hx := X.1
  have hb := X.2.1
  have hl : lv_has ls 6 [(0, .ref (ad 2)), (1, .int x), (2, .int s0), (3, .int o), (4, .int m0)] := hl
  refine lv_aload_n hx hb d_Needs_add_0 rfl (lv_at hl 0 rfl) ?_
  refine zw_getR X hB fl_Needs_9 2 (hs 2 _ rfl) rfl d_Needs_add_1 ?_
  refine lv_iload_n hx hb d_Needs_add_4 rfl (lv_at hl 1 rfl) ?_
  refine zw_iald X hB 10 (hs 10 _ rfl) h1 d_Needs_add_5 ?_
  refine lv_istore (lv' := [(5, .int (mi 10 x.toNatClampNeg)), (0, .ref (ad 2)), (1, .int x), (2, .int s0), (3, .int o), (4, .int m0)]) hx hb d_Needs_add_6 hl (by decide) rfl (fun ls hl => ?_)
  refine lv_aload_n hx hb d_Needs_add_8 rfl (lv_at hl 1 rfl) ?_
  refine zw_getR X hB fl_Needs_17 2 (hs 2 _ rfl) rfl d_Needs_add_9 ?_
  refine lv_iload_n hx hb d_Needs_add_12 rfl (lv_at hl 2 rfl) ?_
  refine zw_aald X hB 11 (Or.inl rfl) (hs 11 _ rfl) h1 d_Needs_add_13 ?_
  refine lv_iload hx hb d_Needs_add_14 (lv_at hl 0 rfl) ?_
  refine lv_iload_n hx hb d_Needs_add_16 rfl (lv_at hl 3 rfl) ?_
  refine zw_iast X hB (64 + x.toNatClampNeg) (hs _ _ (shr0 hn (vlt h1))) h2 d_Needs_add_17 (fun H locs hB => ?_)
  obtain ⟨mi_1, emi_1⟩ : ∃ y, y = zw_up mi (64 + x.toNatClampNeg) (mi 10 x.toNatClampNeg).toNatClampNeg s0 := ⟨_, rfl⟩
  rw [← emi_1] at hB
  refine lv_aload_n hx hb d_Needs_add_18 rfl (lv_at hl 1 rfl) ?_
  refine zw_getR X hB fl_Needs_20 2 (hs 2 _ rfl) rfl d_Needs_add_19 ?_
  refine lv_iload_n hx hb d_Needs_add_22 rfl (lv_at hl 2 rfl) ?_
  refine zw_aald X hB 12 (Or.inl rfl) (hs 12 _ rfl) h1 d_Needs_add_23 ?_
  refine lv_iload hx hb d_Needs_add_24 (lv_at hl 0 rfl) ?_
  refine lv_iload_n hx hb d_Needs_add_26 rfl (lv_at hl 4 rfl) ?_
  refine zw_iast X hB (80 + x.toNatClampNeg) (hs _ _ (shr1 hn (vlt h1))) h2 d_Needs_add_27 (fun H locs hB => ?_)
  obtain ⟨mi_2, emi_2⟩ : ∃ y, y = zw_up mi_1 (80 + x.toNatClampNeg) (mi 10 x.toNatClampNeg).toNatClampNeg o := ⟨_, rfl⟩
  rw [← emi_2] at hB
  refine lv_aload_n hx hb d_Needs_add_28 rfl (lv_at hl 1 rfl) ?_
  refine zw_getR X hB fl_Needs_23 2 (hs 2 _ rfl) rfl d_Needs_add_29 ?_
  refine lv_iload_n hx hb d_Needs_add_32 rfl (lv_at hl 2 rfl) ?_
  refine zw_aald X hB 13 (Or.inl rfl) (hs 13 _ rfl) h1 d_Needs_add_33 ?_
  refine lv_iload hx hb d_Needs_add_34 (lv_at hl 0 rfl) ?_
  refine lv_iload hx hb d_Needs_add_36 (lv_at hl 5 rfl) ?_
  refine zw_iast X hB (96 + x.toNatClampNeg) (hs _ _ (shr2 hn (vlt h1))) h2 d_Needs_add_38 (fun H locs hB => ?_)
  obtain ⟨mi_3, emi_3⟩ : ∃ y, y = zw_up mi_2 (96 + x.toNatClampNeg) (mi 10 x.toNatClampNeg).toNatClampNeg m0 := ⟨_, rfl⟩
  rw [← emi_3] at hB
  refine lv_aload_n hx hb d_Needs_add_39 rfl (lv_at hl 1 rfl) ?_
  refine zw_getR X hB fl_Needs_9 2 (hs 2 _ rfl) rfl d_Needs_add_40 ?_
  refine lv_iload_n hx hb d_Needs_add_43 rfl (lv_at hl 2 rfl) ?_
  refine lv_iload hx hb d_Needs_add_44 (lv_at hl 0 rfl) ?_
  refine lv_iconst (v := 1) hx hb d_Needs_add_46 (by decide) ?_
  refine lv_iadd hx hb d_Needs_add_47 ?_
  refine zw_iast X hB 10 (hs 10 _ rfl) h1 d_Needs_add_48 (fun H locs hB => ?_)
  obtain ⟨mi_4, emi_4⟩ : ∃ y, y = zw_up mi_3 10 x.toNatClampNeg ((mi 10 x.toNatClampNeg) + 1) := ⟨_, rfl⟩
  rw [← emi_4] at hB
  refine lv_aload_n hx hb d_Needs_add_49 rfl (lv_at hl 1 rfl) ?_
  refine zw_getR X hB fl_Needs_9 2 (hs 2 _ rfl) rfl d_Needs_add_50 ?_
  refine lv_iload_n hx hb d_Needs_add_53 rfl (lv_at hl 2 rfl) ?_
  refine zw_iald X hB 10 (hs 10 _ rfl) h1 d_Needs_add_54 ?_
  exact zc_iret X hr hlocks hB (by subst emi_4; subst emi_3; subst emi_2; subst emi_1; rfl) (by subst emi_4; subst emi_3; subst emi_2; subst emi_1; rfl) (by subst emi_4; subst emi_3; subst emi_2; subst emi_1; rfl) d_Needs_add_55

set_option maxHeartbeats 4000000 in
set_option maxRecDepth 100000 in
theorem c_Needs_firstUnmet {l : Launch} {D : va_G} {cA : Nat → ClassId} {ad : Nat → Nat} {sh : zw_Sh} {n : Nat} (hn : n ≤ 16) (hs : ∀ (k : Nat) (q : zw_Sp), shX n k = some q → sh k = some q) (z : Nat) (mi : zw_I) (ml : zw_L) (x : Int32) (s0 : Int32) (h1 : vp_in x n) (w : Nat) (hw : w ≤ 6) (ew : mi 10 x.toNatClampNeg = nI w) (ho : ∀ k : Nat, k < 6 → vp_in (mi (80 + x.toNatClampNeg) k) n) :
    zc_M l D cA Y_Needs_firstUnmet 0 0 0 ad sh sh z [.ref (ad 2), .int x, .int s0, .ref (ad 23)] mi ml (some (.int (p_unmet mi x s0 7 0))) mi ml z := by
  refine zc_enter (own := R_Needs) (by decide) rfl (Nat.le_of_ble_eq_true rfl) ?_
  intro p e s m below meth c X hr hlocks hnm hB ls hl
  have X : zw_C D cA R_Needs prog_6_method_3_code 6 p m c s := X
  have hr : meth.sig.returnType = (some FieldType.int) := hr
  have hx := X.1
  have hb := X.2.1
  have hl : lv_has ls 6 [(0, .ref (ad 2)), (1, .int x), (2, .int s0), (3, .ref (ad 23))] := hl
  have loop : ∀ (f i : Nat)  (H : Heap) (locs : List Loc) (ls : Array Slot), i + f = 7 → i ≤ w → zw_B D cA ad sh (zw_A ad sh z) s.heap mi ml z H locs → lv_has ls 6 [(4, .int (nI i)), (0, .ref (ad 2)), (1, .int x), (2, .int s0), (3, .ref (ad 23))] →
      zc_W l D cA ad sh sh z [.ref (ad 2), .int x, .int s0, .ref (ad 23)] 0 0 0 (some (.int (p_unmet mi x s0 f (nI i)))) mi ml z p e s m below meth c H locs 0 0 (F0 m 3 ls []) := by
    intro f
    induction f with
    | zero =>
      intro i   H locs ls hi h2 hB hl
      omega
    | succ f ih =>
      intro i   H locs ls hi h2 hB hl
      rw [p_unmet]
      refine lv_iload hx hb d_Needs_firstUnmet_3 (lv_at hl 0 rfl) ?_
      refine lv_aload_n hx hb d_Needs_firstUnmet_5 rfl (lv_at hl 1 rfl) ?_
      refine zw_getR X hB fl_Needs_9 2 (hs 2 _ rfl) rfl d_Needs_firstUnmet_6 ?_
      refine lv_iload_n hx hb d_Needs_firstUnmet_9 rfl (lv_at hl 2 rfl) ?_
      refine zw_iald X hB 10 (hs 10 _ rfl) h1 d_Needs_firstUnmet_10 ?_
      refine lv_icmp_ge (tgt := 63) hx hb d_Needs_firstUnmet_11 (by decide) (fun c_11 => ?_) (fun c_11 => ?_)
      · rw [if_pos c_11]
        refine lv_iconst (v := (-1)) hx hb d_Needs_firstUnmet_63 (by decide) ?_
        exact zc_iret X hr hlocks hB (by rfl) (by rfl) (by rfl) d_Needs_firstUnmet_64
      · rw [if_neg c_11]
        have hlt : i < w := zn_lt (by omega) (by rw [← ew]; exact c_11)
        have hin : vp_in (nI i) 6 := vp_in_nI (by omega) (by decide)
        have ho1 := ho (nI i).toNatClampNeg (vlt hin)
        refine lv_aload_n hx hb d_Needs_firstUnmet_14 rfl (lv_at hl 1 rfl) ?_
        refine zw_getR X hB fl_Needs_20 2 (hs 2 _ rfl) rfl d_Needs_firstUnmet_15 ?_
        refine lv_iload_n hx hb d_Needs_firstUnmet_18 rfl (lv_at hl 2 rfl) ?_
        refine zw_aald X hB 12 (Or.inl rfl) (hs 12 _ rfl) h1 d_Needs_firstUnmet_19 ?_
        refine lv_iload hx hb d_Needs_firstUnmet_20 (lv_at hl 0 rfl) ?_
        refine zw_iald X hB (80 + x.toNatClampNeg) (hs _ _ (shr1 hn (vlt h1))) hin d_Needs_firstUnmet_22 ?_
        refine lv_istore (lv' := [(5, .int (mi (80 + x.toNatClampNeg) (nI i).toNatClampNeg)), (4, .int (nI i)), (0, .ref (ad 2)), (1, .int x), (2, .int s0), (3, .ref (ad 23))]) hx hb d_Needs_firstUnmet_23 hl (by decide) rfl (fun ls hl => ?_)
        refine lv_aload_n hx hb d_Needs_firstUnmet_25 rfl (lv_at hl 2 rfl) ?_
        refine zw_getR X hB fl_Needs_17 2 (hs 2 _ rfl) rfl d_Needs_firstUnmet_26 ?_
        refine lv_iload_n hx hb d_Needs_firstUnmet_29 rfl (lv_at hl 3 rfl) ?_
        refine zw_aald X hB 11 (Or.inl rfl) (hs 11 _ rfl) h1 d_Needs_firstUnmet_30 ?_
        refine lv_iload hx hb d_Needs_firstUnmet_31 (lv_at hl 1 rfl) ?_
        refine zw_iald X hB (64 + x.toNatClampNeg) (hs _ _ (shr0 hn (vlt h1))) hin d_Needs_firstUnmet_33 ?_
        refine lv_iload_n hx hb d_Needs_firstUnmet_34 rfl (lv_at hl 4 rfl) ?_
        refine lv_icmp_ne (tgt := 57) hx hb d_Needs_firstUnmet_35 (by decide) (fun c_35 => ?_) (fun c_35 => ?_)
        · rw [if_neg c_35]
          refine lv_iinc (v := nI (i + 1)) (lv' := [(4, .int (nI (i + 1))), (5, .int (mi (80 + x.toNatClampNeg) (nI i).toNatClampNeg)), (0, .ref (ad 2)), (1, .int x), (2, .int s0), (3, .ref (ad 23))]) hx hb d_Needs_firstUnmet_57 hl (k := 1) rfl (nI_1 i) (by decide) rfl (fun ls hl => ?_)
          refine lv_goto (tgt := 3) hx hb d_Needs_firstUnmet_60 (by decide) ?_
          rw [nI_1 i]
          exact ih (i + 1)   H locs ls (by omega) (by omega) hB (lv_sub hl [0, 2, 3, 4, 5] rfl)
        · rw [if_pos c_35]
          refine lv_aload_n hx hb d_Needs_firstUnmet_38 rfl (lv_at hl 5 rfl) ?_
          refine lv_iload hx hb d_Needs_firstUnmet_39 (lv_at hl 0 rfl) ?_
          refine zw_iald X hB 23 (hs 23 _ rfl) ho1 d_Needs_firstUnmet_41 ?_
          refine lv_aload_n hx hb d_Needs_firstUnmet_42 rfl (lv_at hl 2 rfl) ?_
          refine zw_getR X hB fl_Needs_23 2 (hs 2 _ rfl) rfl d_Needs_firstUnmet_43 ?_
          refine lv_iload_n hx hb d_Needs_firstUnmet_46 rfl (lv_at hl 3 rfl) ?_
          refine zw_aald X hB 13 (Or.inl rfl) (hs 13 _ rfl) h1 d_Needs_firstUnmet_47 ?_
          refine lv_iload hx hb d_Needs_firstUnmet_48 (lv_at hl 1 rfl) ?_
          refine zw_iald X hB (96 + x.toNatClampNeg) (hs _ _ (shr2 hn (vlt h1))) hin d_Needs_firstUnmet_50 ?_
          refine lv_icmp_ge (tgt := 57) hx hb d_Needs_firstUnmet_51 (by decide) (fun c_51 => ?_) (fun c_51 => ?_)
          · rw [if_pos c_51]
            refine lv_iinc (v := nI (i + 1)) (lv' := [(4, .int (nI (i + 1))), (5, .int (mi (80 + x.toNatClampNeg) (nI i).toNatClampNeg)), (0, .ref (ad 2)), (1, .int x), (2, .int s0), (3, .ref (ad 23))]) hx hb d_Needs_firstUnmet_57 hl (k := 1) rfl (nI_1 i) (by decide) rfl (fun ls hl => ?_)
            refine lv_goto (tgt := 3) hx hb d_Needs_firstUnmet_60 (by decide) ?_
            rw [nI_1 i]
            exact ih (i + 1)   H locs ls (by omega) (by omega) hB (lv_sub hl [0, 2, 3, 4, 5] rfl)
          · rw [if_neg c_51]
            refine lv_iload hx hb d_Needs_firstUnmet_54 (lv_at hl 0 rfl) ?_
            exact zc_iret X hr hlocks hB (by rfl) (by rfl) (by rfl) d_Needs_firstUnmet_56
  refine lv_iconst (v := 0) hx hb d_Needs_firstUnmet_0 (by decide) ?_
  refine lv_istore (lv' := [(4, .int 0), (0, .ref (ad 2)), (1, .int x), (2, .int s0), (3, .ref (ad 23))]) hx hb d_Needs_firstUnmet_1 hl (by decide) rfl (fun ls hl => ?_)
  exact loop 7 0  _ _ ls rfl (by omega) hB (lv_sub hl [0, 1, 2, 3, 4] rfl)

set_option maxHeartbeats 4000000 in
set_option maxRecDepth 100000 in
theorem c_Needs_sumOfValues {l : Launch} {D : va_G} {cA : Nat → ClassId} {ad : Nat → Nat} {sh : zw_Sh} {n : Nat} (hn : n ≤ 16) (hs : ∀ (k : Nat) (q : zw_Sp), shX n k = some q → sh k = some q) (z : Nat) (mi : zw_I) (ml : zw_L) (x : Int32) (s0 : Int32) (h1 : vp_in x n) (w : Nat) (hw : w ≤ 6) (ew : mi 10 x.toNatClampNeg = nI w) (ho : ∀ k : Nat, k < 6 → vp_in (mi (80 + x.toNatClampNeg) k) n) (hm : ∀ k : Nat, k < 6 → vp_in (mi (96 + x.toNatClampNeg) k) 21) :
    zc_M l D cA Y_Needs_sumOfValues 0 0 0 ad sh sh z [.ref (ad 2), .int x, .int s0, .ref (ad 24)] mi ml (some (.long (p_sum mi ml x s0 7 0 0))) mi ml z := by
  refine zc_enter (own := R_Needs) (by decide) rfl (Nat.le_of_ble_eq_true rfl) ?_
  intro p e s m below meth c X hr hlocks hnm hB ls hl
  have X : zw_C D cA R_Needs prog_6_method_4_code 7 p m c s := X
  have hr : meth.sig.returnType = (some FieldType.long) := hr
  have hx := X.1
  have hb := X.2.1
  have hl : lv_has ls 7 [(0, .ref (ad 2)), (1, .int x), (2, .int s0), (3, .ref (ad 24))] := hl
  have loop : ∀ (f i : Nat) (a : Int64)  (H : Heap) (locs : List Loc) (ls : Array Slot), i + f = 7 → i ≤ w → zw_B D cA ad sh (zw_A ad sh z) s.heap mi ml z H locs → lv_has ls 7 [(6, .int (nI i)), (4, .long a), (0, .ref (ad 2)), (1, .int x), (2, .int s0), (3, .ref (ad 24))] →
      zc_W l D cA ad sh sh z [.ref (ad 2), .int x, .int s0, .ref (ad 24)] 0 0 0 (some (.long (p_sum mi ml x s0 f (nI i) a))) mi ml z p e s m below meth c H locs 0 0 (F0 m 6 ls []) := by
    intro f
    induction f with
    | zero =>
      intro i a  H locs ls hi h2 hB hl
      omega
    | succ f ih =>
      intro i a  H locs ls hi h2 hB hl
      rw [p_sum]
      refine lv_iload hx hb d_Needs_sumOfValues_6 (lv_at hl 0 rfl) ?_
      refine lv_aload_n hx hb d_Needs_sumOfValues_8 rfl (lv_at hl 2 rfl) ?_
      refine zw_getR X hB fl_Needs_9 2 (hs 2 _ rfl) rfl d_Needs_sumOfValues_9 ?_
      refine lv_iload_n hx hb d_Needs_sumOfValues_12 rfl (lv_at hl 3 rfl) ?_
      refine zw_iald X hB 10 (hs 10 _ rfl) h1 d_Needs_sumOfValues_13 ?_
      refine lv_icmp_ge (tgt := 62) hx hb d_Needs_sumOfValues_14 (by decide) (fun c_14 => ?_) (fun c_14 => ?_)
      · rw [if_pos c_14]
        refine lv_lload hx hb d_Needs_sumOfValues_62 (lv_at hl 1 rfl) ?_
        exact zc_lret X hr hlocks hB (by rfl) (by rfl) (by rfl) d_Needs_sumOfValues_64
      · rw [if_neg c_14]
        have hlt : i < w := zn_lt (by omega) (by rw [← ew]; exact c_14)
        have hin : vp_in (nI i) 6 := vp_in_nI (by omega) (by decide)
        have ho1 := ho (nI i).toNatClampNeg (vlt hin)
        have hm1 := hm (nI i).toNatClampNeg (vlt hin)
        refine lv_aload_n hx hb d_Needs_sumOfValues_17 rfl (lv_at hl 2 rfl) ?_
        refine zw_getR X hB fl_Needs_17 2 (hs 2 _ rfl) rfl d_Needs_sumOfValues_18 ?_
        refine lv_iload_n hx hb d_Needs_sumOfValues_21 rfl (lv_at hl 3 rfl) ?_
        refine zw_aald X hB 11 (Or.inl rfl) (hs 11 _ rfl) h1 d_Needs_sumOfValues_22 ?_
        refine lv_iload hx hb d_Needs_sumOfValues_23 (lv_at hl 0 rfl) ?_
        refine zw_iald X hB (64 + x.toNatClampNeg) (hs _ _ (shr0 hn (vlt h1))) hin d_Needs_sumOfValues_25 ?_
        refine lv_iload_n hx hb d_Needs_sumOfValues_26 rfl (lv_at hl 4 rfl) ?_
        refine lv_icmp_ne (tgt := 56) hx hb d_Needs_sumOfValues_27 (by decide) (fun c_27 => ?_) (fun c_27 => ?_)
        · rw [if_neg c_27]
          refine lv_iinc (v := nI (i + 1)) (lv' := [(6, .int (nI (i + 1))), (4, .long a), (0, .ref (ad 2)), (1, .int x), (2, .int s0), (3, .ref (ad 24))]) hx hb d_Needs_sumOfValues_56 hl (k := 0) rfl (nI_1 i) (by decide) rfl (fun ls hl => ?_)
          refine lv_goto (tgt := 6) hx hb d_Needs_sumOfValues_59 (by decide) ?_
          rw [nI_1 i]
          exact ih (i + 1) _  H locs ls (by omega) (by omega) hB (lv_sub hl [0, 1, 2, 3, 4, 5] rfl)
        · rw [if_pos c_27]
          refine lv_lload hx hb d_Needs_sumOfValues_30 (lv_at hl 1 rfl) ?_
          refine lv_aload_n hx hb d_Needs_sumOfValues_32 rfl (lv_at hl 5 rfl) ?_
          refine lv_aload_n hx hb d_Needs_sumOfValues_33 rfl (lv_at hl 2 rfl) ?_
          refine zw_getR X hB fl_Needs_20 2 (hs 2 _ rfl) rfl d_Needs_sumOfValues_34 ?_
          refine lv_iload_n hx hb d_Needs_sumOfValues_37 rfl (lv_at hl 3 rfl) ?_
          refine zw_aald X hB 12 (Or.inl rfl) (hs 12 _ rfl) h1 d_Needs_sumOfValues_38 ?_
          refine lv_iload hx hb d_Needs_sumOfValues_39 (lv_at hl 0 rfl) ?_
          refine zw_iald X hB (80 + x.toNatClampNeg) (hs _ _ (shr1 hn (vlt h1))) hin d_Needs_sumOfValues_41 ?_
          refine zw_aald X hB 24 (Or.inr rfl) (hs 24 _ rfl) ho1 d_Needs_sumOfValues_42 ?_
          refine lv_aload_n hx hb d_Needs_sumOfValues_43 rfl (lv_at hl 2 rfl) ?_
          refine zw_getR X hB fl_Needs_23 2 (hs 2 _ rfl) rfl d_Needs_sumOfValues_44 ?_
          refine lv_iload_n hx hb d_Needs_sumOfValues_47 rfl (lv_at hl 3 rfl) ?_
          refine zw_aald X hB 13 (Or.inl rfl) (hs 13 _ rfl) h1 d_Needs_sumOfValues_48 ?_
          refine lv_iload hx hb d_Needs_sumOfValues_49 (lv_at hl 0 rfl) ?_
          refine zw_iald X hB (96 + x.toNatClampNeg) (hs _ _ (shr2 hn (vlt h1))) hin d_Needs_sumOfValues_51 ?_
          refine zw_lald X hB (112 + (mi (80 + x.toNatClampNeg) (nI i).toNatClampNeg).toNatClampNeg) (hs _ _ (shr3 hn (vlt ho1))) hm1 d_Needs_sumOfValues_52 ?_
          refine lv_ladd hx hb d_Needs_sumOfValues_53 ?_
          refine lv_lstore (lv' := [(4, .long (a + (ml (112 + (mi (80 + x.toNatClampNeg) (nI i).toNatClampNeg).toNatClampNeg) (mi (96 + x.toNatClampNeg) (nI i).toNatClampNeg).toNatClampNeg))), (6, .int (nI i)), (0, .ref (ad 2)), (1, .int x), (2, .int s0), (3, .ref (ad 24))]) hx hb d_Needs_sumOfValues_54 hl (by decide) rfl (fun ls hl => ?_)
          refine lv_iinc (v := nI (i + 1)) (lv' := [(6, .int (nI (i + 1))), (4, .long (a + (ml (112 + (mi (80 + x.toNatClampNeg) (nI i).toNatClampNeg).toNatClampNeg) (mi (96 + x.toNatClampNeg) (nI i).toNatClampNeg).toNatClampNeg))), (0, .ref (ad 2)), (1, .int x), (2, .int s0), (3, .ref (ad 24))]) hx hb d_Needs_sumOfValues_56 hl (k := 1) rfl (nI_1 i) (by decide) rfl (fun ls hl => ?_)
          refine lv_goto (tgt := 6) hx hb d_Needs_sumOfValues_59 (by decide) ?_
          rw [nI_1 i]
          exact ih (i + 1) _  H locs ls (by omega) (by omega) hB (lv_sub hl [0, 1, 2, 3, 4, 5] rfl)
  refine lv_lconst (v := 0) hx hb d_Needs_sumOfValues_0 (by decide) ?_
  refine lv_lstore (lv' := [(4, .long 0), (0, .ref (ad 2)), (1, .int x), (2, .int s0), (3, .ref (ad 24))]) hx hb d_Needs_sumOfValues_1 hl (by decide) rfl (fun ls hl => ?_)
  refine lv_iconst (v := 0) hx hb d_Needs_sumOfValues_3 (by decide) ?_
  refine lv_istore (lv' := [(6, .int 0), (4, .long 0), (0, .ref (ad 2)), (1, .int x), (2, .int s0), (3, .ref (ad 24))]) hx hb d_Needs_sumOfValues_4 hl (by decide) rfl (fun ls hl => ?_)
  exact loop 7 0 0  _ _ ls rfl (by omega) hB (lv_sub hl [0, 1, 2, 3, 4, 5] rfl)
