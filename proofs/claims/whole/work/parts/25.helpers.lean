abbrev Y_Law_share : zc_Y := (⟨R_Law, "share", "(LTileShares;IIIJ[J)I"⟩, method_3_code, 8, (some FieldType.int))
abbrev Y_Law_need : zc_Y := (⟨R_Law, "need", "(LTileShares;IIII[J)I"⟩, method_4_code, 7, (some FieldType.int))
abbrev Y_Law_free : zc_Y := (⟨R_Law, "free", "(LTileShares;I[J)I"⟩, method_5_code, 4, (some FieldType.int))
abbrev Y_Law_failing : zc_Y := (⟨R_Law, "failing", "(LTileShares;IIII[J)I"⟩, method_6_code, 7, (some FieldType.int))
abbrev Y_Law_stop : zc_Y := (⟨R_Law, "stop", "(LTileShares;I[J)I"⟩, method_7_code, 4, (some FieldType.int))
abbrev Y_Law_run : zc_Y := (⟨R_Law, "run", "(LTileShares;IJ[J)I"⟩, method_8_code, 6, (some FieldType.int))
abbrev Y_Law_at : zc_Y := (⟨R_Law, "at", "(LTileShares;I[J)I"⟩, method_9_code, 4, (some FieldType.int))
abbrev Y_Law_order : zc_Y := (⟨R_Law, "order", "(LTileShares;I[J)I"⟩, method_10_code, 4, (some FieldType.int))
abbrev Y_Law_begun : zc_Y := (⟨R_Law, "begun", "(LTileShares;I[J)I"⟩, method_11_code, 4, (some FieldType.int))
abbrev Y_Law_waited : zc_Y := (⟨R_Law, "waited", "(LTileShares;II[J)I"⟩, method_12_code, 5, (some FieldType.int))
abbrev Y_Law_cell : zc_Y := (⟨R_Law, "cell", "([II)I"⟩, method_2_code, 2, (some FieldType.int))
theorem d_Law_share_0 : decode method_3_code 0 = .ok (.aload 6, 2) := by decide +kernel
theorem d_Law_share_2 : decode method_3_code 2 = .ok (.iconst 0, 1) := by decide +kernel
theorem d_Law_share_3 : decode method_3_code 3 = .ok (.aload_n 0, 1) := by decide +kernel
theorem d_Law_share_4 : decode method_3_code 4 = .ok (.iload_n 1, 1) := by decide +kernel
theorem d_Law_share_5 : decode method_3_code 5 = .ok (.iload_n 2, 1) := by decide +kernel
theorem d_Law_share_6 : decode method_3_code 6 = .ok (.iload_n 3, 1) := by decide +kernel
theorem d_Law_share_7 : decode method_3_code 7 = .ok (.lload 4, 2) := by decide +kernel
theorem d_Law_share_9 : decode method_3_code 9 = .ok (.invokevirtual 7, 3) := by decide +kernel
theorem d_Law_share_12 : decode method_3_code 12 = .ok (.i2l, 1) := by decide +kernel
theorem d_Law_share_13 : decode method_3_code 13 = .ok (.lastore, 1) := by decide +kernel
theorem d_Law_share_14 : decode method_3_code 14 = .ok (.goto 11, 3) := by decide +kernel
theorem d_Law_share_17 : decode method_3_code 17 = .ok (.astore 7, 2) := by decide +kernel
theorem d_Law_share_19 : decode method_3_code 19 = .ok (.iconst 1, 1) := by decide +kernel
theorem d_Law_share_20 : decode method_3_code 20 = .ok (.ireturn, 1) := by decide +kernel
theorem d_Law_share_21 : decode method_3_code 21 = .ok (.astore 7, 2) := by decide +kernel
theorem d_Law_share_23 : decode method_3_code 23 = .ok (.iconst 2, 1) := by decide +kernel
theorem d_Law_share_24 : decode method_3_code 24 = .ok (.ireturn, 1) := by decide +kernel
theorem d_Law_share_25 : decode method_3_code 25 = .ok (.iconst 0, 1) := by decide +kernel
theorem d_Law_share_26 : decode method_3_code 26 = .ok (.ireturn, 1) := by decide +kernel
theorem d_Law_need_0 : decode method_4_code 0 = .ok (.aload 5, 2) := by decide +kernel
theorem d_Law_need_2 : decode method_4_code 2 = .ok (.iconst 0, 1) := by decide +kernel
theorem d_Law_need_3 : decode method_4_code 3 = .ok (.aload_n 0, 1) := by decide +kernel
theorem d_Law_need_4 : decode method_4_code 4 = .ok (.iload_n 1, 1) := by decide +kernel
theorem d_Law_need_5 : decode method_4_code 5 = .ok (.iload_n 2, 1) := by decide +kernel
theorem d_Law_need_6 : decode method_4_code 6 = .ok (.iload_n 3, 1) := by decide +kernel
theorem d_Law_need_7 : decode method_4_code 7 = .ok (.iload 4, 2) := by decide +kernel
theorem d_Law_need_9 : decode method_4_code 9 = .ok (.invokevirtual 17, 3) := by decide +kernel
theorem d_Law_need_12 : decode method_4_code 12 = .ok (.i2l, 1) := by decide +kernel
theorem d_Law_need_13 : decode method_4_code 13 = .ok (.lastore, 1) := by decide +kernel
theorem d_Law_need_14 : decode method_4_code 14 = .ok (.goto 15, 3) := by decide +kernel
theorem d_Law_need_17 : decode method_4_code 17 = .ok (.astore 6, 2) := by decide +kernel
theorem d_Law_need_19 : decode method_4_code 19 = .ok (.iconst 1, 1) := by decide +kernel
theorem d_Law_need_20 : decode method_4_code 20 = .ok (.ireturn, 1) := by decide +kernel
theorem d_Law_need_21 : decode method_4_code 21 = .ok (.astore 6, 2) := by decide +kernel
theorem d_Law_need_23 : decode method_4_code 23 = .ok (.iconst 2, 1) := by decide +kernel
theorem d_Law_need_24 : decode method_4_code 24 = .ok (.ireturn, 1) := by decide +kernel
theorem d_Law_need_25 : decode method_4_code 25 = .ok (.astore 6, 2) := by decide +kernel
theorem d_Law_need_27 : decode method_4_code 27 = .ok (.iconst 3, 1) := by decide +kernel
theorem d_Law_need_28 : decode method_4_code 28 = .ok (.ireturn, 1) := by decide +kernel
theorem d_Law_need_29 : decode method_4_code 29 = .ok (.iconst 0, 1) := by decide +kernel
theorem d_Law_need_30 : decode method_4_code 30 = .ok (.ireturn, 1) := by decide +kernel
theorem d_Law_free_0 : decode method_5_code 0 = .ok (.aload_n 2, 1) := by decide +kernel
theorem d_Law_free_1 : decode method_5_code 1 = .ok (.iconst 0, 1) := by decide +kernel
theorem d_Law_free_2 : decode method_5_code 2 = .ok (.aload_n 0, 1) := by decide +kernel
theorem d_Law_free_3 : decode method_5_code 3 = .ok (.iload_n 1, 1) := by decide +kernel
theorem d_Law_free_4 : decode method_5_code 4 = .ok (.invokevirtual 23, 3) := by decide +kernel
theorem d_Law_free_7 : decode method_5_code 7 = .ok (.i2l, 1) := by decide +kernel
theorem d_Law_free_8 : decode method_5_code 8 = .ok (.lastore, 1) := by decide +kernel
theorem d_Law_free_9 : decode method_5_code 9 = .ok (.goto 6, 3) := by decide +kernel
theorem d_Law_free_12 : decode method_5_code 12 = .ok (.astore_n 3, 1) := by decide +kernel
theorem d_Law_free_13 : decode method_5_code 13 = .ok (.iconst 1, 1) := by decide +kernel
theorem d_Law_free_14 : decode method_5_code 14 = .ok (.ireturn, 1) := by decide +kernel
theorem d_Law_free_15 : decode method_5_code 15 = .ok (.iconst 0, 1) := by decide +kernel
theorem d_Law_free_16 : decode method_5_code 16 = .ok (.ireturn, 1) := by decide +kernel
theorem d_Law_failing_0 : decode method_6_code 0 = .ok (.aload 5, 2) := by decide +kernel
theorem d_Law_failing_2 : decode method_6_code 2 = .ok (.iconst 0, 1) := by decide +kernel
theorem d_Law_failing_3 : decode method_6_code 3 = .ok (.aload_n 0, 1) := by decide +kernel
theorem d_Law_failing_4 : decode method_6_code 4 = .ok (.iload_n 1, 1) := by decide +kernel
theorem d_Law_failing_5 : decode method_6_code 5 = .ok (.iload_n 2, 1) := by decide +kernel
theorem d_Law_failing_6 : decode method_6_code 6 = .ok (.iload_n 3, 1) := by decide +kernel
theorem d_Law_failing_7 : decode method_6_code 7 = .ok (.iload 4, 2) := by decide +kernel
theorem d_Law_failing_9 : decode method_6_code 9 = .ok (.invokevirtual 27, 3) := by decide +kernel
theorem d_Law_failing_12 : decode method_6_code 12 = .ok (.i2l, 1) := by decide +kernel
theorem d_Law_failing_13 : decode method_6_code 13 = .ok (.lastore, 1) := by decide +kernel
theorem d_Law_failing_14 : decode method_6_code 14 = .ok (.goto 15, 3) := by decide +kernel
theorem d_Law_failing_17 : decode method_6_code 17 = .ok (.astore 6, 2) := by decide +kernel
theorem d_Law_failing_19 : decode method_6_code 19 = .ok (.iconst 1, 1) := by decide +kernel
theorem d_Law_failing_20 : decode method_6_code 20 = .ok (.ireturn, 1) := by decide +kernel
theorem d_Law_failing_21 : decode method_6_code 21 = .ok (.astore 6, 2) := by decide +kernel
theorem d_Law_failing_23 : decode method_6_code 23 = .ok (.iconst 2, 1) := by decide +kernel
theorem d_Law_failing_24 : decode method_6_code 24 = .ok (.ireturn, 1) := by decide +kernel
theorem d_Law_failing_25 : decode method_6_code 25 = .ok (.astore 6, 2) := by decide +kernel
theorem d_Law_failing_27 : decode method_6_code 27 = .ok (.iconst 3, 1) := by decide +kernel
theorem d_Law_failing_28 : decode method_6_code 28 = .ok (.ireturn, 1) := by decide +kernel
theorem d_Law_failing_29 : decode method_6_code 29 = .ok (.iconst 0, 1) := by decide +kernel
theorem d_Law_failing_30 : decode method_6_code 30 = .ok (.ireturn, 1) := by decide +kernel
theorem d_Law_stop_0 : decode method_7_code 0 = .ok (.aload_n 2, 1) := by decide +kernel
theorem d_Law_stop_1 : decode method_7_code 1 = .ok (.iconst 0, 1) := by decide +kernel
theorem d_Law_stop_2 : decode method_7_code 2 = .ok (.aload_n 0, 1) := by decide +kernel
theorem d_Law_stop_3 : decode method_7_code 3 = .ok (.iload_n 1, 1) := by decide +kernel
theorem d_Law_stop_4 : decode method_7_code 4 = .ok (.invokevirtual 30, 3) := by decide +kernel
theorem d_Law_stop_7 : decode method_7_code 7 = .ok (.i2l, 1) := by decide +kernel
theorem d_Law_stop_8 : decode method_7_code 8 = .ok (.lastore, 1) := by decide +kernel
theorem d_Law_stop_9 : decode method_7_code 9 = .ok (.goto 6, 3) := by decide +kernel
theorem d_Law_stop_12 : decode method_7_code 12 = .ok (.astore_n 3, 1) := by decide +kernel
theorem d_Law_stop_13 : decode method_7_code 13 = .ok (.iconst 1, 1) := by decide +kernel
theorem d_Law_stop_14 : decode method_7_code 14 = .ok (.ireturn, 1) := by decide +kernel
theorem d_Law_stop_15 : decode method_7_code 15 = .ok (.iconst 0, 1) := by decide +kernel
theorem d_Law_stop_16 : decode method_7_code 16 = .ok (.ireturn, 1) := by decide +kernel
theorem d_Law_run_0 : decode method_8_code 0 = .ok (.aload 4, 2) := by decide +kernel
theorem d_Law_run_2 : decode method_8_code 2 = .ok (.iconst 0, 1) := by decide +kernel
theorem d_Law_run_3 : decode method_8_code 3 = .ok (.aload_n 0, 1) := by decide +kernel
theorem d_Law_run_4 : decode method_8_code 4 = .ok (.iload_n 1, 1) := by decide +kernel
theorem d_Law_run_5 : decode method_8_code 5 = .ok (.lload_n 2, 1) := by decide +kernel
theorem d_Law_run_6 : decode method_8_code 6 = .ok (.invokevirtual 33, 3) := by decide +kernel
theorem d_Law_run_9 : decode method_8_code 9 = .ok (.i2l, 1) := by decide +kernel
theorem d_Law_run_10 : decode method_8_code 10 = .ok (.lastore, 1) := by decide +kernel
theorem d_Law_run_11 : decode method_8_code 11 = .ok (.goto 7, 3) := by decide +kernel
theorem d_Law_run_14 : decode method_8_code 14 = .ok (.astore 5, 2) := by decide +kernel
theorem d_Law_run_16 : decode method_8_code 16 = .ok (.iconst 1, 1) := by decide +kernel
theorem d_Law_run_17 : decode method_8_code 17 = .ok (.ireturn, 1) := by decide +kernel
theorem d_Law_run_18 : decode method_8_code 18 = .ok (.iconst 0, 1) := by decide +kernel
theorem d_Law_run_19 : decode method_8_code 19 = .ok (.ireturn, 1) := by decide +kernel
theorem d_Law_at_0 : decode method_9_code 0 = .ok (.aload_n 2, 1) := by decide +kernel
theorem d_Law_at_1 : decode method_9_code 1 = .ok (.iconst 0, 1) := by decide +kernel
theorem d_Law_at_2 : decode method_9_code 2 = .ok (.aload_n 0, 1) := by decide +kernel
theorem d_Law_at_3 : decode method_9_code 3 = .ok (.iload_n 1, 1) := by decide +kernel
theorem d_Law_at_4 : decode method_9_code 4 = .ok (.invokevirtual 37, 3) := by decide +kernel
theorem d_Law_at_7 : decode method_9_code 7 = .ok (.lastore, 1) := by decide +kernel
theorem d_Law_at_8 : decode method_9_code 8 = .ok (.goto 9, 3) := by decide +kernel
theorem d_Law_at_11 : decode method_9_code 11 = .ok (.astore_n 3, 1) := by decide +kernel
theorem d_Law_at_12 : decode method_9_code 12 = .ok (.iconst 1, 1) := by decide +kernel
theorem d_Law_at_13 : decode method_9_code 13 = .ok (.ireturn, 1) := by decide +kernel
theorem d_Law_at_14 : decode method_9_code 14 = .ok (.astore_n 3, 1) := by decide +kernel
theorem d_Law_at_15 : decode method_9_code 15 = .ok (.iconst 2, 1) := by decide +kernel
theorem d_Law_at_16 : decode method_9_code 16 = .ok (.ireturn, 1) := by decide +kernel
theorem d_Law_at_17 : decode method_9_code 17 = .ok (.iconst 0, 1) := by decide +kernel
theorem d_Law_at_18 : decode method_9_code 18 = .ok (.ireturn, 1) := by decide +kernel
theorem d_Law_order_0 : decode method_10_code 0 = .ok (.aload_n 2, 1) := by decide +kernel
theorem d_Law_order_1 : decode method_10_code 1 = .ok (.iconst 0, 1) := by decide +kernel
theorem d_Law_order_2 : decode method_10_code 2 = .ok (.aload_n 0, 1) := by decide +kernel
theorem d_Law_order_3 : decode method_10_code 3 = .ok (.iload_n 1, 1) := by decide +kernel
theorem d_Law_order_4 : decode method_10_code 4 = .ok (.invokevirtual 43, 3) := by decide +kernel
theorem d_Law_order_7 : decode method_10_code 7 = .ok (.i2l, 1) := by decide +kernel
theorem d_Law_order_8 : decode method_10_code 8 = .ok (.lastore, 1) := by decide +kernel
theorem d_Law_order_9 : decode method_10_code 9 = .ok (.goto 6, 3) := by decide +kernel
theorem d_Law_order_12 : decode method_10_code 12 = .ok (.astore_n 3, 1) := by decide +kernel
theorem d_Law_order_13 : decode method_10_code 13 = .ok (.iconst 1, 1) := by decide +kernel
theorem d_Law_order_14 : decode method_10_code 14 = .ok (.ireturn, 1) := by decide +kernel
theorem d_Law_order_15 : decode method_10_code 15 = .ok (.iconst 0, 1) := by decide +kernel
theorem d_Law_order_16 : decode method_10_code 16 = .ok (.ireturn, 1) := by decide +kernel
theorem d_Law_begun_0 : decode method_11_code 0 = .ok (.aload_n 2, 1) := by decide +kernel
theorem d_Law_begun_1 : decode method_11_code 1 = .ok (.iconst 0, 1) := by decide +kernel
theorem d_Law_begun_2 : decode method_11_code 2 = .ok (.aload_n 0, 1) := by decide +kernel
theorem d_Law_begun_3 : decode method_11_code 3 = .ok (.iload_n 1, 1) := by decide +kernel
theorem d_Law_begun_4 : decode method_11_code 4 = .ok (.invokevirtual 46, 3) := by decide +kernel
theorem d_Law_begun_7 : decode method_11_code 7 = .ok (.i2l, 1) := by decide +kernel
theorem d_Law_begun_8 : decode method_11_code 8 = .ok (.lastore, 1) := by decide +kernel
theorem d_Law_begun_9 : decode method_11_code 9 = .ok (.goto 6, 3) := by decide +kernel
theorem d_Law_begun_12 : decode method_11_code 12 = .ok (.astore_n 3, 1) := by decide +kernel
theorem d_Law_begun_13 : decode method_11_code 13 = .ok (.iconst 1, 1) := by decide +kernel
theorem d_Law_begun_14 : decode method_11_code 14 = .ok (.ireturn, 1) := by decide +kernel
theorem d_Law_begun_15 : decode method_11_code 15 = .ok (.iconst 0, 1) := by decide +kernel
theorem d_Law_begun_16 : decode method_11_code 16 = .ok (.ireturn, 1) := by decide +kernel
theorem d_Law_waited_0 : decode method_12_code 0 = .ok (.aload_n 3, 1) := by decide +kernel
theorem d_Law_waited_1 : decode method_12_code 1 = .ok (.iconst 0, 1) := by decide +kernel
theorem d_Law_waited_2 : decode method_12_code 2 = .ok (.aload_n 0, 1) := by decide +kernel
theorem d_Law_waited_3 : decode method_12_code 3 = .ok (.iload_n 1, 1) := by decide +kernel
theorem d_Law_waited_4 : decode method_12_code 4 = .ok (.iload_n 2, 1) := by decide +kernel
theorem d_Law_waited_5 : decode method_12_code 5 = .ok (.invokevirtual 49, 3) := by decide +kernel
theorem d_Law_waited_8 : decode method_12_code 8 = .ok (.i2l, 1) := by decide +kernel
theorem d_Law_waited_9 : decode method_12_code 9 = .ok (.lastore, 1) := by decide +kernel
theorem d_Law_waited_10 : decode method_12_code 10 = .ok (.goto 7, 3) := by decide +kernel
theorem d_Law_waited_13 : decode method_12_code 13 = .ok (.astore 4, 2) := by decide +kernel
theorem d_Law_waited_15 : decode method_12_code 15 = .ok (.iconst 1, 1) := by decide +kernel
theorem d_Law_waited_16 : decode method_12_code 16 = .ok (.ireturn, 1) := by decide +kernel
theorem d_Law_waited_17 : decode method_12_code 17 = .ok (.iconst 0, 1) := by decide +kernel
theorem d_Law_waited_18 : decode method_12_code 18 = .ok (.ireturn, 1) := by decide +kernel
theorem d_Law_cell_0 : decode method_2_code 0 = .ok (.iload_n 1, 1) := by decide +kernel
theorem d_Law_cell_1 : decode method_2_code 1 = .ok (.aload_n 0, 1) := by decide +kernel
theorem d_Law_cell_2 : decode method_2_code 2 = .ok (.arraylength, 1) := by decide +kernel
theorem d_Law_cell_3 : decode method_2_code 3 = .ok (.if_icmp .ge 9, 3) := by decide +kernel
theorem d_Law_cell_6 : decode method_2_code 6 = .ok (.aload_n 0, 1) := by decide +kernel
theorem d_Law_cell_7 : decode method_2_code 7 = .ok (.iload_n 1, 1) := by decide +kernel
theorem d_Law_cell_8 : decode method_2_code 8 = .ok (.iaload, 1) := by decide +kernel
theorem d_Law_cell_9 : decode method_2_code 9 = .ok (.goto 4, 3) := by decide +kernel
theorem d_Law_cell_12 : decode method_2_code 12 = .ok (.iconst 0, 1) := by decide +kernel
theorem d_Law_cell_13 : decode method_2_code 13 = .ok (.ireturn, 1) := by decide +kernel
theorem mv_Law_7 : zw_MV R_Law 7 Y_TS_share R_TS 4 := ⟨Or.inl (zw_in (List.mem_of_getElem? (i := 314) (by decide +kernel)) (by decide +kernel)), (zw_in (List.mem_of_getElem? (i := 315) (by decide +kernel)) (by decide +kernel)), (zw_in (List.mem_of_getElem? (i := 316) (by decide +kernel)) (by decide +kernel)), (zw_in (List.mem_of_getElem? (i := 317) (by decide +kernel)) (by decide +kernel)), (zw_in (List.mem_of_getElem? (i := 25) (by decide +kernel)) (by decide +kernel)), by decide +kernel, by decide +kernel⟩
theorem mv_Law_17 : zw_MV R_Law 17 Y_TS_need R_TS 4 := ⟨Or.inl (zw_in (List.mem_of_getElem? (i := 414) (by decide +kernel)) (by decide +kernel)), (zw_in (List.mem_of_getElem? (i := 415) (by decide +kernel)) (by decide +kernel)), (zw_in (List.mem_of_getElem? (i := 416) (by decide +kernel)) (by decide +kernel)), (zw_in (List.mem_of_getElem? (i := 417) (by decide +kernel)) (by decide +kernel)), (zw_in (List.mem_of_getElem? (i := 25) (by decide +kernel)) (by decide +kernel)), by decide +kernel, by decide +kernel⟩
theorem mv_Law_23 : zw_MV R_Law 23 Y_TS_free R_TS 1 := ⟨Or.inl (zw_in (List.mem_of_getElem? (i := 445) (by decide +kernel)) (by decide +kernel)), (zw_in (List.mem_of_getElem? (i := 446) (by decide +kernel)) (by decide +kernel)), (zw_in (List.mem_of_getElem? (i := 447) (by decide +kernel)) (by decide +kernel)), (zw_in (List.mem_of_getElem? (i := 448) (by decide +kernel)) (by decide +kernel)), (zw_in (List.mem_of_getElem? (i := 25) (by decide +kernel)) (by decide +kernel)), by decide +kernel, by decide +kernel⟩
theorem mv_Law_27 : zw_MV R_Law 27 Y_TS_failing R_TS 4 := ⟨Or.inl (zw_in (List.mem_of_getElem? (i := 452) (by decide +kernel)) (by decide +kernel)), (zw_in (List.mem_of_getElem? (i := 453) (by decide +kernel)) (by decide +kernel)), (zw_in (List.mem_of_getElem? (i := 454) (by decide +kernel)) (by decide +kernel)), (zw_in (List.mem_of_getElem? (i := 455) (by decide +kernel)) (by decide +kernel)), (zw_in (List.mem_of_getElem? (i := 25) (by decide +kernel)) (by decide +kernel)), by decide +kernel, by decide +kernel⟩
theorem mv_Law_30 : zw_MV R_Law 30 Y_TS_stop R_TS 1 := ⟨Or.inl (zw_in (List.mem_of_getElem? (i := 465) (by decide +kernel)) (by decide +kernel)), (zw_in (List.mem_of_getElem? (i := 466) (by decide +kernel)) (by decide +kernel)), (zw_in (List.mem_of_getElem? (i := 467) (by decide +kernel)) (by decide +kernel)), (zw_in (List.mem_of_getElem? (i := 468) (by decide +kernel)) (by decide +kernel)), (zw_in (List.mem_of_getElem? (i := 25) (by decide +kernel)) (by decide +kernel)), by decide +kernel, by decide +kernel⟩
theorem mv_Law_33 : zw_MV R_Law 33 Y_TS_run R_TS 2 := ⟨Or.inl (zw_in (List.mem_of_getElem? (i := 472) (by decide +kernel)) (by decide +kernel)), (zw_in (List.mem_of_getElem? (i := 473) (by decide +kernel)) (by decide +kernel)), (zw_in (List.mem_of_getElem? (i := 474) (by decide +kernel)) (by decide +kernel)), (zw_in (List.mem_of_getElem? (i := 475) (by decide +kernel)) (by decide +kernel)), (zw_in (List.mem_of_getElem? (i := 25) (by decide +kernel)) (by decide +kernel)), by decide +kernel, by decide +kernel⟩
theorem mv_Law_37 : zw_MV R_Law 37 Y_TS_at R_TS 1 := ⟨Or.inl (zw_in (List.mem_of_getElem? (i := 566) (by decide +kernel)) (by decide +kernel)), (zw_in (List.mem_of_getElem? (i := 567) (by decide +kernel)) (by decide +kernel)), (zw_in (List.mem_of_getElem? (i := 568) (by decide +kernel)) (by decide +kernel)), (zw_in (List.mem_of_getElem? (i := 569) (by decide +kernel)) (by decide +kernel)), (zw_in (List.mem_of_getElem? (i := 25) (by decide +kernel)) (by decide +kernel)), by decide +kernel, by decide +kernel⟩
theorem mv_Law_43 : zw_MV R_Law 43 Y_TS_order R_TS 1 := ⟨Or.inl (zw_in (List.mem_of_getElem? (i := 589) (by decide +kernel)) (by decide +kernel)), (zw_in (List.mem_of_getElem? (i := 590) (by decide +kernel)) (by decide +kernel)), (zw_in (List.mem_of_getElem? (i := 591) (by decide +kernel)) (by decide +kernel)), (zw_in (List.mem_of_getElem? (i := 592) (by decide +kernel)) (by decide +kernel)), (zw_in (List.mem_of_getElem? (i := 25) (by decide +kernel)) (by decide +kernel)), by decide +kernel, by decide +kernel⟩
theorem mv_Law_46 : zw_MV R_Law 46 Y_TS_begun R_TS 1 := ⟨Or.inl (zw_in (List.mem_of_getElem? (i := 597) (by decide +kernel)) (by decide +kernel)), (zw_in (List.mem_of_getElem? (i := 598) (by decide +kernel)) (by decide +kernel)), (zw_in (List.mem_of_getElem? (i := 599) (by decide +kernel)) (by decide +kernel)), (zw_in (List.mem_of_getElem? (i := 600) (by decide +kernel)) (by decide +kernel)), (zw_in (List.mem_of_getElem? (i := 25) (by decide +kernel)) (by decide +kernel)), by decide +kernel, by decide +kernel⟩
theorem mv_Law_49 : zw_MV R_Law 49 Y_TS_waited R_TS 2 := ⟨Or.inl (zw_in (List.mem_of_getElem? (i := 604) (by decide +kernel)) (by decide +kernel)), (zw_in (List.mem_of_getElem? (i := 605) (by decide +kernel)) (by decide +kernel)), (zw_in (List.mem_of_getElem? (i := 606) (by decide +kernel)) (by decide +kernel)), (zw_in (List.mem_of_getElem? (i := 607) (by decide +kernel)) (by decide +kernel)), (zw_in (List.mem_of_getElem? (i := 25) (by decide +kernel)) (by decide +kernel)), by decide +kernel, by decide +kernel⟩
theorem p_share_E {mi : zw_I} {ml : zw_L} {x : Int32} {st : Int32} {ce : Int32} {t : Int64} {E : String} (h : p_share mi ml x st ce t = .inl E) : E = zt_I ∨ E = zt_A := by
  unfold p_share at h
  repeat' split at h
  all_goals cases h
  all_goals first | exact Or.inl rfl | exact Or.inr (rfl)
theorem p_share_R {mi : zw_I} {ml : zw_L} {x : Int32} {st : Int32} {ce : Int32} {t : Int64} {q : Option Value × zw_I × zw_L} (h : p_share mi ml x st ce t = .inr q) : ∃ v : Int32, q.1 = some (.int v) := by
  unfold p_share at h
  repeat' split at h
  all_goals cases h
  all_goals exact ⟨_, rfl⟩
theorem p_need_E {mi : zw_I} {ml : zw_L} {x : Int32} {s0 : Int32} {o : Int32} {m0 : Int32} {E : String} (h : p_need mi ml x s0 o m0 = .inl E) : E = zt_I ∨ E = zt_A ∨ E = zt_U := by
  unfold p_need at h
  repeat' split at h
  all_goals cases h
  all_goals first | exact Or.inl rfl | exact Or.inr (Or.inl rfl) | exact Or.inr (Or.inr (rfl))
theorem p_need_R {mi : zw_I} {ml : zw_L} {x : Int32} {s0 : Int32} {o : Int32} {m0 : Int32} {q : Option Value × zw_I × zw_L} (h : p_need mi ml x s0 o m0 = .inr q) : ∃ v : Int32, q.1 = some (.int v) := by
  unfold p_need at h
  repeat' split at h
  all_goals cases h
  all_goals exact ⟨_, rfl⟩
theorem p_free_E {mi : zw_I} {ml : zw_L} {x : Int32} {E : String} (h : p_free mi ml x = .inl E) : E = zt_I := by
  unfold p_free at h
  repeat' split at h
  all_goals cases h
  all_goals first | exact rfl
theorem p_free_R {mi : zw_I} {ml : zw_L} {x : Int32} {q : Option Value × zw_I × zw_L} (h : p_free mi ml x = .inr q) : ∃ v : Int32, q.1 = some (.int v) := by
  unfold p_free at h
  repeat' split at h
  all_goals cases h
  all_goals exact ⟨_, rfl⟩
theorem p_failing_E {mi : zw_I} {ml : zw_L} {w : Int32} {x : Int32} {s0 : Int32} {t : Int32} {E : String} (h : p_failing mi ml w x s0 t = .inl E) : E = zt_I ∨ E = zt_A ∨ E = zt_U := by
  unfold p_failing at h
  repeat' split at h
  all_goals cases h
  all_goals first | exact Or.inl rfl | exact Or.inr (Or.inl rfl) | exact Or.inr (Or.inr (rfl))
theorem p_failing_R {mi : zw_I} {ml : zw_L} {w : Int32} {x : Int32} {s0 : Int32} {t : Int32} {q : Option Value × zw_I × zw_L} (h : p_failing mi ml w x s0 t = .inr q) : ∃ v : Int32, q.1 = some (.int v) := by
  unfold p_failing at h
  repeat' split at h
  all_goals cases h
  all_goals exact ⟨_, rfl⟩
theorem p_stop_E {mi : zw_I} {ml : zw_L} {x : Int32} {E : String} (h : p_stop mi ml x = .inl E) : E = zt_I := by
  unfold p_stop at h
  repeat' split at h
  all_goals cases h
  all_goals first | exact rfl
theorem p_stop_R {mi : zw_I} {ml : zw_L} {x : Int32} {q : Option Value × zw_I × zw_L} (h : p_stop mi ml x = .inr q) : ∃ v : Int32, q.1 = some (.int v) := by
  unfold p_stop at h
  repeat' split at h
  all_goals cases h
  all_goals exact ⟨_, rfl⟩
theorem p_run_E {n : Nat} {mi : zw_I} {ml : zw_L} {wk : Int32} {x : Int64} {E : String} (h : p_run n mi ml wk x = .inl E) : E = zt_A := by
  unfold p_run p_runB at h
  repeat' split at h
  all_goals cases h
  all_goals first | exact rfl
theorem p_run_R {n : Nat} {mi : zw_I} {ml : zw_L} {wk : Int32} {x : Int64} {q : Option Value × zw_I × zw_L} (h : p_run n mi ml wk x = .inr q) : ∃ v : Int32, q.1 = some (.int v) := by
  unfold p_run p_runB at h
  repeat' split at h
  all_goals cases h
  all_goals exact ⟨_, rfl⟩
theorem p_at_E {mi : zw_I} {ml : zw_L} {x : Int32} {E : String} (h : p_at mi ml x = .inl E) : E = zt_I ∨ E = zt_S := by
  unfold p_at at h
  repeat' split at h
  all_goals cases h
  all_goals first | exact Or.inl rfl | exact Or.inr (rfl)
theorem p_at_R {mi : zw_I} {ml : zw_L} {x : Int32} {q : Option Value × zw_I × zw_L} (h : p_at mi ml x = .inr q) : ∃ v : Int64, q.1 = some (.long v) := by
  unfold p_at at h
  repeat' split at h
  all_goals cases h
  all_goals exact ⟨_, rfl⟩
theorem p_order_E {mi : zw_I} {ml : zw_L} {x : Int32} {E : String} (h : p_order mi ml x = .inl E) : E = zt_I := by
  unfold p_order at h
  repeat' split at h
  all_goals cases h
  all_goals first | exact rfl
theorem p_order_R {mi : zw_I} {ml : zw_L} {x : Int32} {q : Option Value × zw_I × zw_L} (h : p_order mi ml x = .inr q) : ∃ v : Int32, q.1 = some (.int v) := by
  unfold p_order at h
  repeat' split at h
  all_goals cases h
  all_goals exact ⟨_, rfl⟩
theorem p_begun_E {mi : zw_I} {ml : zw_L} {x : Int32} {E : String} (h : p_begun mi ml x = .inl E) : E = zt_I := by
  unfold p_begun at h
  repeat' split at h
  all_goals cases h
  all_goals first | exact rfl
theorem p_begun_R {mi : zw_I} {ml : zw_L} {x : Int32} {q : Option Value × zw_I × zw_L} (h : p_begun mi ml x = .inr q) : ∃ v : Int32, q.1 = some (.int v) := by
  unfold p_begun at h
  repeat' split at h
  all_goals cases h
  all_goals exact ⟨_, rfl⟩
theorem p_waited_E {mi : zw_I} {ml : zw_L} {x : Int32} {y : Int32} {E : String} (h : p_waited mi ml x y = .inl E) : E = zt_I := by
  unfold p_waited at h
  repeat' split at h
  all_goals cases h
  all_goals first | exact rfl
theorem p_waited_R {mi : zw_I} {ml : zw_L} {x : Int32} {y : Int32} {q : Option Value × zw_I × zw_L} (h : p_waited mi ml x y = .inr q) : ∃ v : Int32, q.1 = some (.int v) := by
  unfold p_waited at h
  repeat' split at h
  all_goals cases h
  all_goals exact ⟨_, rfl⟩

theorem pl_Law_7 : Cond.methodLink R_Law 7 Y_TS_share.1 ∈ zw_Tb := (zw_in (List.mem_of_getElem? (i := 314) (by decide +kernel)) (by decide +kernel))
theorem pl_Law_17 : Cond.methodLink R_Law 17 Y_TS_need.1 ∈ zw_Tb := (zw_in (List.mem_of_getElem? (i := 414) (by decide +kernel)) (by decide +kernel))
theorem pl_Law_23 : Cond.methodLink R_Law 23 Y_TS_free.1 ∈ zw_Tb := (zw_in (List.mem_of_getElem? (i := 445) (by decide +kernel)) (by decide +kernel))
theorem pl_Law_27 : Cond.methodLink R_Law 27 Y_TS_failing.1 ∈ zw_Tb := (zw_in (List.mem_of_getElem? (i := 452) (by decide +kernel)) (by decide +kernel))
theorem pl_Law_30 : Cond.methodLink R_Law 30 Y_TS_stop.1 ∈ zw_Tb := (zw_in (List.mem_of_getElem? (i := 465) (by decide +kernel)) (by decide +kernel))
theorem pl_Law_33 : Cond.methodLink R_Law 33 Y_TS_run.1 ∈ zw_Tb := (zw_in (List.mem_of_getElem? (i := 472) (by decide +kernel)) (by decide +kernel))
theorem pl_Law_37 : Cond.methodLink R_Law 37 Y_TS_at.1 ∈ zw_Tb := (zw_in (List.mem_of_getElem? (i := 566) (by decide +kernel)) (by decide +kernel))
theorem pl_Law_43 : Cond.methodLink R_Law 43 Y_TS_order.1 ∈ zw_Tb := (zw_in (List.mem_of_getElem? (i := 589) (by decide +kernel)) (by decide +kernel))
theorem pl_Law_46 : Cond.methodLink R_Law 46 Y_TS_begun.1 ∈ zw_Tb := (zw_in (List.mem_of_getElem? (i := 597) (by decide +kernel)) (by decide +kernel))
theorem pl_Law_49 : Cond.methodLink R_Law 49 Y_TS_waited.1 ∈ zw_Tb := (zw_in (List.mem_of_getElem? (i := 604) (by decide +kernel)) (by decide +kernel))
theorem kx_13 : Cond.classLink R_Law 13 zt_I ∈ zw_Tb := (zw_in (List.mem_of_getElem? (i := 312) (by decide +kernel)) (by decide +kernel))
theorem ka_zt_I : Cond.castable zt_I zt_I ∈ zw_Tb := (zw_in (List.mem_of_getElem? (i := 327) (by decide +kernel)) (by decide +kernel))
theorem kx_15 : Cond.classLink R_Law 15 zt_A ∈ zw_Tb := (zw_in (List.mem_of_getElem? (i := 313) (by decide +kernel)) (by decide +kernel))
theorem ka_zt_A : Cond.castable zt_A zt_A ∈ zw_Tb := (zw_in (List.mem_of_getElem? (i := 396) (by decide +kernel)) (by decide +kernel))
theorem kx_21 : Cond.classLink R_Law 21 zt_U ∈ zw_Tb := (zw_in (List.mem_of_getElem? (i := 413) (by decide +kernel)) (by decide +kernel))
theorem ka_zt_U : Cond.castable zt_U zt_U ∈ zw_Tb := (zw_in (List.mem_of_getElem? (i := 424) (by decide +kernel)) (by decide +kernel))
theorem kx_41 : Cond.classLink R_Law 41 zt_S ∈ zw_Tb := (zw_in (List.mem_of_getElem? (i := 565) (by decide +kernel)) (by decide +kernel))
theorem ka_zt_S : Cond.castable zt_S zt_S ∈ zw_Tb := (zw_in (List.mem_of_getElem? (i := 572) (by decide +kernel)) (by decide +kernel))
set_option maxHeartbeats 4000000 in
set_option maxRecDepth 100000 in
theorem c_Law_share {l : Launch} (hTr : l.stackTraces = false) {D : va_G} {cA : Nat → ClassId} {ad : Nat → Nat} {sh : zw_Sh} {n : Nat} (hn : n ≤ 16) (hs : ∀ (k : Nat) (q : zw_Sp), shX n k = some q → sh k = some q) (ho : sh 30 = some (.inr (1, 1, 0))) {b : Nat} (z : Nat) (hA : ∀ q, zw_A ad sh z q → b ≤ q) (mi : zw_I) (ml : zw_L) (x : Int32) (st : Int32) (ce : Int32) (t : Int64) (h1 : ∀ x : Int32, ¬ p_isShare mi x = 0 → vp_in x n) :
    zh_M l D cA Y_Law_share [(0, 14, 17, 13), (0, 14, 21, 15)] 7 b ad sh z [.ref (ad 0), .int x, .int st, .int ce, .long t, .ref (ad 30)] mi ml (zh_c zh_k (p_share mi ml x st ce t)) (zh_i mi (p_share mi ml x st ce t)) (zh_l ml (p_share mi ml x st ce t)) (z + zh_z (p_share mi ml x st ce t)) := by
  refine zh_enter (own := R_Law) (by decide) rfl (Nat.le_of_ble_eq_true rfl) ?_
  intro p e s m below meth c X hr hlocks hB Zx Zz htab ls hl
  have X : zw_C D cA R_Law method_3_code 8 p m c s := X
  have hr : meth.sig.returnType = (some FieldType.int) := hr
  have hx := X.1
  have hb := X.2.1
  have hl : lv_has ls 8 [(0, .ref (ad 0)), (1, .int x), (2, .int st), (3, .int ce), (4, .long t), (6, .ref (ad 30))] := hl
  refine lv_aload hx hb d_Law_share_0 (lv_at hl 5 rfl) ?_
  refine lv_iconst (v := 0) hx hb d_Law_share_2 (by decide) ?_
  refine lv_aload_n hx hb d_Law_share_3 rfl (lv_at hl 0 rfl) ?_
  refine lv_iload_n hx hb d_Law_share_4 rfl (lv_at hl 1 rfl) ?_
  refine lv_iload_n hx hb d_Law_share_5 rfl (lv_at hl 2 rfl) ?_
  refine lv_iload_n hx hb d_Law_share_6 rfl (lv_at hl 3 rfl) ?_
  refine lv_lload hx hb d_Law_share_7 (lv_at hl 4 rfl) ?_
  rcases hr0 : p_share mi ml x st ce t with E | q0
  · have hE := p_share_E hr0
    rcases hE with rfl | rfl
    · have hps : ∀ w9 ∈ ([] : zh_H), w9.2.2.2 ≠ 0 ∧ ∃ nm : String, Cond.classLink R_Law w9.2.2.2 nm ∈ zw_Tb ∧ (zt_I, nm) ∈ zt_nos := (fun w9 hw => nomatch hw)
      refine zx_callE X Zx Zz hB mv_Law_7 pl_Law_7 0 (hs 0 _ rfl) rfl (hr0 ▸ c_TS_share hTr hn hs z hA mi ml x st ce t h1) rfl hl.1 ⟨Nat.le_of_ble_eq_true rfl, Nat.le_of_ble_eq_true rfl⟩ rfl (Nat.le_of_ble_eq_true rfl) ⟨Nat.le_of_ble_eq_true rfl, Nat.le_of_ble_eq_true rfl⟩ htab [] (0, 14, 17, 13) [(0, 14, 21, 15)] rfl hps (by decide) (by decide) kx_13 ka_zt_I d_Law_share_9 (fun H locs q hB => ?_)
      refine lv_astore (lv' := [(7, .ref q), (0, .ref (ad 0)), (1, .int x), (2, .int st), (3, .int ce), (4, .long t), (6, .ref (ad 30))]) hx hb d_Law_share_17 hl (by decide) rfl (fun ls hl => ?_)
      refine lv_iconst (v := 1) hx hb d_Law_share_19 (by decide) ?_
      exact zh_ret X hr hlocks hB (congrArg (fun v => some (Value.int v)) zh_kI.symm) rfl rfl (by decide) (by decide) d_Law_share_20
    · have hps : ∀ w9 ∈ ([(0, 14, 17, 13)] : zh_H), w9.2.2.2 ≠ 0 ∧ ∃ nm : String, Cond.classLink R_Law w9.2.2.2 nm ∈ zw_Tb ∧ (zt_A, nm) ∈ zt_nos := (fun w9 hw => by
                simp only [List.mem_cons, List.not_mem_nil, or_false] at hw
                rcases hw with rfl
                · exact ⟨by decide, _, kx_13, by decide +kernel⟩)
      refine zx_callE X Zx Zz hB mv_Law_7 pl_Law_7 0 (hs 0 _ rfl) rfl (hr0 ▸ c_TS_share hTr hn hs z hA mi ml x st ce t h1) rfl hl.1 ⟨Nat.le_of_ble_eq_true rfl, Nat.le_of_ble_eq_true rfl⟩ rfl (Nat.le_of_ble_eq_true rfl) ⟨Nat.le_of_ble_eq_true rfl, Nat.le_of_ble_eq_true rfl⟩ htab [(0, 14, 17, 13)] (0, 14, 21, 15) [] rfl hps (by decide) (by decide) kx_15 ka_zt_A d_Law_share_9 (fun H locs q hB => ?_)
      refine lv_astore (lv' := [(7, .ref q), (0, .ref (ad 0)), (1, .int x), (2, .int st), (3, .int ce), (4, .long t), (6, .ref (ad 30))]) hx hb d_Law_share_21 hl (by decide) rfl (fun ls hl => ?_)
      refine lv_iconst (v := 2) hx hb d_Law_share_23 (by decide) ?_
      exact zh_ret X hr hlocks hB (congrArg (fun v => some (Value.int v)) zh_kA.symm) rfl rfl (by decide) (by decide) d_Law_share_24
  · obtain ⟨rv0, mi1, ml1⟩ := q0
    obtain ⟨v0, hv0⟩ := p_share_R hr0
    have hv0 : rv0 = some (.int v0) := hv0
    subst hv0
    refine zx_callR X Zx Zz hB mv_Law_7 pl_Law_7 0 (hs 0 _ rfl) rfl (hr0 ▸ c_TS_share hTr hn hs z hA mi ml x st ce t h1) rfl hl.1 ⟨Nat.le_of_ble_eq_true rfl, Nat.le_of_ble_eq_true rfl⟩ rfl (Nat.le_of_ble_eq_true rfl) ⟨Nat.le_of_ble_eq_true rfl, Nat.le_of_ble_eq_true rfl⟩ d_Law_share_9 (fun H locs hB => ?_)
    refine lv_i2l (v := v0.toInt64) hx hb d_Law_share_12 rfl ?_
    refine zw_last X hB 30 ho zh_01 d_Law_share_13 (fun H locs hB => ?_)
    refine lv_goto (tgt := 25) hx hb d_Law_share_14 (by decide) ?_
    refine lv_iconst (v := 0) hx hb d_Law_share_25 (by decide) ?_
    exact zh_ret X hr hlocks hB rfl rfl rfl (by decide) (by decide) d_Law_share_26

set_option maxHeartbeats 4000000 in
set_option maxRecDepth 100000 in
theorem c_Law_need {l : Launch} (hTr : l.stackTraces = false) {D : va_G} {cA : Nat → ClassId} {ad : Nat → Nat} {sh : zw_Sh} {n : Nat} (hn : n ≤ 16) (hs : ∀ (k : Nat) (q : zw_Sp), shX n k = some q → sh k = some q) (ho : sh 30 = some (.inr (1, 1, 0))) {b : Nat} (z : Nat) (hA : ∀ q, zw_A ad sh z q → b ≤ q) (mi : zw_I) (ml : zw_L) (x : Int32) (s0 : Int32) (o : Int32) (m0 : Int32) (h1 : ∀ x : Int32, ¬ p_isShare mi x = 0 → vp_in x n) (h2 : ¬ p_isShare mi x = 0 → mi 10 x.toNatClampNeg < 6 → vp_in (mi 10 x.toNatClampNeg) 6) :
    zh_M l D cA Y_Law_need [(0, 14, 17, 13), (0, 14, 21, 15), (0, 14, 25, 21)] 7 b ad sh z [.ref (ad 0), .int x, .int s0, .int o, .int m0, .ref (ad 30)] mi ml (zh_c zh_k (p_need mi ml x s0 o m0)) (zh_i mi (p_need mi ml x s0 o m0)) (zh_l ml (p_need mi ml x s0 o m0)) (z + zh_z (p_need mi ml x s0 o m0)) := by
  refine zh_enter (own := R_Law) (by decide) rfl (Nat.le_of_ble_eq_true rfl) ?_
  intro p e s m below meth c X hr hlocks hB Zx Zz htab ls hl
  have X : zw_C D cA R_Law method_4_code 7 p m c s := X
  have hr : meth.sig.returnType = (some FieldType.int) := hr
  have hx := X.1
  have hb := X.2.1
  have hl : lv_has ls 7 [(0, .ref (ad 0)), (1, .int x), (2, .int s0), (3, .int o), (4, .int m0), (5, .ref (ad 30))] := hl
  refine lv_aload hx hb d_Law_need_0 (lv_at hl 5 rfl) ?_
  refine lv_iconst (v := 0) hx hb d_Law_need_2 (by decide) ?_
  refine lv_aload_n hx hb d_Law_need_3 rfl (lv_at hl 0 rfl) ?_
  refine lv_iload_n hx hb d_Law_need_4 rfl (lv_at hl 1 rfl) ?_
  refine lv_iload_n hx hb d_Law_need_5 rfl (lv_at hl 2 rfl) ?_
  refine lv_iload_n hx hb d_Law_need_6 rfl (lv_at hl 3 rfl) ?_
  refine lv_iload hx hb d_Law_need_7 (lv_at hl 4 rfl) ?_
  rcases hr0 : p_need mi ml x s0 o m0 with E | q0
  · have hE := p_need_E hr0
    rcases hE with rfl | rfl | rfl
    · have hps : ∀ w9 ∈ ([] : zh_H), w9.2.2.2 ≠ 0 ∧ ∃ nm : String, Cond.classLink R_Law w9.2.2.2 nm ∈ zw_Tb ∧ (zt_I, nm) ∈ zt_nos := (fun w9 hw => nomatch hw)
      refine zx_callE X Zx Zz hB mv_Law_17 pl_Law_17 0 (hs 0 _ rfl) rfl (hr0 ▸ c_TS_need hTr hn hs z hA mi ml x s0 o m0 h1 h2) rfl hl.1 ⟨Nat.le_of_ble_eq_true rfl, Nat.le_of_ble_eq_true rfl⟩ rfl (Nat.le_of_ble_eq_true rfl) ⟨Nat.le_of_ble_eq_true rfl, Nat.le_of_ble_eq_true rfl⟩ htab [] (0, 14, 17, 13) [(0, 14, 21, 15), (0, 14, 25, 21)] rfl hps (by decide) (by decide) kx_13 ka_zt_I d_Law_need_9 (fun H locs q hB => ?_)
      refine lv_astore (lv' := [(6, .ref q), (0, .ref (ad 0)), (1, .int x), (2, .int s0), (3, .int o), (4, .int m0), (5, .ref (ad 30))]) hx hb d_Law_need_17 hl (by decide) rfl (fun ls hl => ?_)
      refine lv_iconst (v := 1) hx hb d_Law_need_19 (by decide) ?_
      exact zh_ret X hr hlocks hB (congrArg (fun v => some (Value.int v)) zh_kI.symm) rfl rfl (by decide) (by decide) d_Law_need_20
    · have hps : ∀ w9 ∈ ([(0, 14, 17, 13)] : zh_H), w9.2.2.2 ≠ 0 ∧ ∃ nm : String, Cond.classLink R_Law w9.2.2.2 nm ∈ zw_Tb ∧ (zt_A, nm) ∈ zt_nos := (fun w9 hw => by
                simp only [List.mem_cons, List.not_mem_nil, or_false] at hw
                rcases hw with rfl
                · exact ⟨by decide, _, kx_13, by decide +kernel⟩)
      refine zx_callE X Zx Zz hB mv_Law_17 pl_Law_17 0 (hs 0 _ rfl) rfl (hr0 ▸ c_TS_need hTr hn hs z hA mi ml x s0 o m0 h1 h2) rfl hl.1 ⟨Nat.le_of_ble_eq_true rfl, Nat.le_of_ble_eq_true rfl⟩ rfl (Nat.le_of_ble_eq_true rfl) ⟨Nat.le_of_ble_eq_true rfl, Nat.le_of_ble_eq_true rfl⟩ htab [(0, 14, 17, 13)] (0, 14, 21, 15) [(0, 14, 25, 21)] rfl hps (by decide) (by decide) kx_15 ka_zt_A d_Law_need_9 (fun H locs q hB => ?_)
      refine lv_astore (lv' := [(6, .ref q), (0, .ref (ad 0)), (1, .int x), (2, .int s0), (3, .int o), (4, .int m0), (5, .ref (ad 30))]) hx hb d_Law_need_21 hl (by decide) rfl (fun ls hl => ?_)
      refine lv_iconst (v := 2) hx hb d_Law_need_23 (by decide) ?_
      exact zh_ret X hr hlocks hB (congrArg (fun v => some (Value.int v)) zh_kA.symm) rfl rfl (by decide) (by decide) d_Law_need_24
    · have hps : ∀ w9 ∈ ([(0, 14, 17, 13), (0, 14, 21, 15)] : zh_H), w9.2.2.2 ≠ 0 ∧ ∃ nm : String, Cond.classLink R_Law w9.2.2.2 nm ∈ zw_Tb ∧ (zt_U, nm) ∈ zt_nos := (fun w9 hw => by
                simp only [List.mem_cons, List.not_mem_nil, or_false] at hw
                rcases hw with rfl | rfl
                · exact ⟨by decide, _, kx_13, by decide +kernel⟩
                · exact ⟨by decide, _, kx_15, by decide +kernel⟩)
      refine zx_callE X Zx Zz hB mv_Law_17 pl_Law_17 0 (hs 0 _ rfl) rfl (hr0 ▸ c_TS_need hTr hn hs z hA mi ml x s0 o m0 h1 h2) rfl hl.1 ⟨Nat.le_of_ble_eq_true rfl, Nat.le_of_ble_eq_true rfl⟩ rfl (Nat.le_of_ble_eq_true rfl) ⟨Nat.le_of_ble_eq_true rfl, Nat.le_of_ble_eq_true rfl⟩ htab [(0, 14, 17, 13), (0, 14, 21, 15)] (0, 14, 25, 21) [] rfl hps (by decide) (by decide) kx_21 ka_zt_U d_Law_need_9 (fun H locs q hB => ?_)
      refine lv_astore (lv' := [(6, .ref q), (0, .ref (ad 0)), (1, .int x), (2, .int s0), (3, .int o), (4, .int m0), (5, .ref (ad 30))]) hx hb d_Law_need_25 hl (by decide) rfl (fun ls hl => ?_)
      refine lv_iconst (v := 3) hx hb d_Law_need_27 (by decide) ?_
      exact zh_ret X hr hlocks hB (congrArg (fun v => some (Value.int v)) zh_kU.symm) rfl rfl (by decide) (by decide) d_Law_need_28
  · obtain ⟨rv0, mi1, ml1⟩ := q0
    obtain ⟨v0, hv0⟩ := p_need_R hr0
    have hv0 : rv0 = some (.int v0) := hv0
    subst hv0
    refine zx_callR X Zx Zz hB mv_Law_17 pl_Law_17 0 (hs 0 _ rfl) rfl (hr0 ▸ c_TS_need hTr hn hs z hA mi ml x s0 o m0 h1 h2) rfl hl.1 ⟨Nat.le_of_ble_eq_true rfl, Nat.le_of_ble_eq_true rfl⟩ rfl (Nat.le_of_ble_eq_true rfl) ⟨Nat.le_of_ble_eq_true rfl, Nat.le_of_ble_eq_true rfl⟩ d_Law_need_9 (fun H locs hB => ?_)
    refine lv_i2l (v := v0.toInt64) hx hb d_Law_need_12 rfl ?_
    refine zw_last X hB 30 ho zh_01 d_Law_need_13 (fun H locs hB => ?_)
    refine lv_goto (tgt := 29) hx hb d_Law_need_14 (by decide) ?_
    refine lv_iconst (v := 0) hx hb d_Law_need_29 (by decide) ?_
    exact zh_ret X hr hlocks hB rfl rfl rfl (by decide) (by decide) d_Law_need_30

set_option maxHeartbeats 4000000 in
set_option maxRecDepth 100000 in
theorem c_Law_free {l : Launch} (hTr : l.stackTraces = false) {D : va_G} {cA : Nat → ClassId} {ad : Nat → Nat} {sh : zw_Sh} {n : Nat} (hn : n ≤ 16) (hs : ∀ (k : Nat) (q : zw_Sp), shX n k = some q → sh k = some q) (ho : sh 30 = some (.inr (1, 1, 0))) {b : Nat} (z : Nat) (hA : ∀ q, zw_A ad sh z q → b ≤ q) (mi : zw_I) (ml : zw_L) (x : Int32) (h1 : ∀ x : Int32, ¬ p_isShare mi x = 0 → vp_in x n) :
    zh_M l D cA Y_Law_free [(0, 9, 12, 13)] 7 b ad sh z [.ref (ad 0), .int x, .ref (ad 30)] mi ml (zh_c zh_k (p_free mi ml x)) (zh_i mi (p_free mi ml x)) (zh_l ml (p_free mi ml x)) (z + zh_z (p_free mi ml x)) := by
  refine zh_enter (own := R_Law) (by decide) rfl (Nat.le_of_ble_eq_true rfl) ?_
  intro p e s m below meth c X hr hlocks hB Zx Zz htab ls hl
  have X : zw_C D cA R_Law method_5_code 4 p m c s := X
  have hr : meth.sig.returnType = (some FieldType.int) := hr
  have hx := X.1
  have hb := X.2.1
  have hl : lv_has ls 4 [(0, .ref (ad 0)), (1, .int x), (2, .ref (ad 30))] := hl
  refine lv_aload_n hx hb d_Law_free_0 rfl (lv_at hl 2 rfl) ?_
  refine lv_iconst (v := 0) hx hb d_Law_free_1 (by decide) ?_
  refine lv_aload_n hx hb d_Law_free_2 rfl (lv_at hl 0 rfl) ?_
  refine lv_iload_n hx hb d_Law_free_3 rfl (lv_at hl 1 rfl) ?_
  rcases hr0 : p_free mi ml x with E | q0
  · have hE := p_free_E hr0
    subst hE
    have hps : ∀ w9 ∈ ([] : zh_H), w9.2.2.2 ≠ 0 ∧ ∃ nm : String, Cond.classLink R_Law w9.2.2.2 nm ∈ zw_Tb ∧ (zt_I, nm) ∈ zt_nos := (fun w9 hw => nomatch hw)
    refine zx_callE X Zx Zz hB mv_Law_23 pl_Law_23 0 (hs 0 _ rfl) rfl (hr0 ▸ c_TS_free hTr hn hs z hA mi ml x h1) rfl hl.1 ⟨Nat.le_of_ble_eq_true rfl, Nat.le_of_ble_eq_true rfl⟩ rfl (Nat.le_of_ble_eq_true rfl) ⟨Nat.le_of_ble_eq_true rfl, Nat.le_of_ble_eq_true rfl⟩ htab [] (0, 9, 12, 13) [] rfl hps (by decide) (by decide) kx_13 ka_zt_I d_Law_free_4 (fun H locs q hB => ?_)
    refine lv_astore_n (lv' := [(3, .ref q), (0, .ref (ad 0)), (1, .int x), (2, .ref (ad 30))]) hx hb d_Law_free_12 rfl hl (by decide) rfl (fun ls hl => ?_)
    refine lv_iconst (v := 1) hx hb d_Law_free_13 (by decide) ?_
    exact zh_ret X hr hlocks hB (congrArg (fun v => some (Value.int v)) zh_kI.symm) rfl rfl (by decide) (by decide) d_Law_free_14
  · obtain ⟨rv0, mi1, ml1⟩ := q0
    obtain ⟨v0, hv0⟩ := p_free_R hr0
    have hv0 : rv0 = some (.int v0) := hv0
    subst hv0
    refine zx_callR X Zx Zz hB mv_Law_23 pl_Law_23 0 (hs 0 _ rfl) rfl (hr0 ▸ c_TS_free hTr hn hs z hA mi ml x h1) rfl hl.1 ⟨Nat.le_of_ble_eq_true rfl, Nat.le_of_ble_eq_true rfl⟩ rfl (Nat.le_of_ble_eq_true rfl) ⟨Nat.le_of_ble_eq_true rfl, Nat.le_of_ble_eq_true rfl⟩ d_Law_free_4 (fun H locs hB => ?_)
    refine lv_i2l (v := v0.toInt64) hx hb d_Law_free_7 rfl ?_
    refine zw_last X hB 30 ho zh_01 d_Law_free_8 (fun H locs hB => ?_)
    refine lv_goto (tgt := 15) hx hb d_Law_free_9 (by decide) ?_
    refine lv_iconst (v := 0) hx hb d_Law_free_15 (by decide) ?_
    exact zh_ret X hr hlocks hB rfl rfl rfl (by decide) (by decide) d_Law_free_16

set_option maxHeartbeats 4000000 in
set_option maxRecDepth 100000 in
theorem c_Law_failing {l : Launch} (hTr : l.stackTraces = false) {D : va_G} {cA : Nat → ClassId} {ad : Nat → Nat} {sh : zw_Sh} {n : Nat} (hn : n ≤ 16) (hs : ∀ (k : Nat) (q : zw_Sp), shX n k = some q → sh k = some q) (ho : sh 30 = some (.inr (1, 1, 0))) {b : Nat} (z : Nat) (hA : ∀ q, zw_A ad sh z q → b ≤ q) (mi : zw_I) (ml : zw_L) (w : Int32) (x : Int32) (s0 : Int32) (t : Int32) (h2 : mi 3 5 < 8 → vp_in (mi 3 5) 8) :
    zh_M l D cA Y_Law_failing [(0, 14, 17, 13), (0, 14, 21, 15), (0, 14, 25, 21)] 7 b ad sh z [.ref (ad 0), .int w, .int x, .int s0, .int t, .ref (ad 30)] mi ml (zh_c zh_k (p_failing mi ml w x s0 t)) (zh_i mi (p_failing mi ml w x s0 t)) (zh_l ml (p_failing mi ml w x s0 t)) (z + zh_z (p_failing mi ml w x s0 t)) := by
  refine zh_enter (own := R_Law) (by decide) rfl (Nat.le_of_ble_eq_true rfl) ?_
  intro p e s m below meth c X hr hlocks hB Zx Zz htab ls hl
  have X : zw_C D cA R_Law method_6_code 7 p m c s := X
  have hr : meth.sig.returnType = (some FieldType.int) := hr
  have hx := X.1
  have hb := X.2.1
  have hl : lv_has ls 7 [(0, .ref (ad 0)), (1, .int w), (2, .int x), (3, .int s0), (4, .int t), (5, .ref (ad 30))] := hl
  refine lv_aload hx hb d_Law_failing_0 (lv_at hl 5 rfl) ?_
  refine lv_iconst (v := 0) hx hb d_Law_failing_2 (by decide) ?_
  refine lv_aload_n hx hb d_Law_failing_3 rfl (lv_at hl 0 rfl) ?_
  refine lv_iload_n hx hb d_Law_failing_4 rfl (lv_at hl 1 rfl) ?_
  refine lv_iload_n hx hb d_Law_failing_5 rfl (lv_at hl 2 rfl) ?_
  refine lv_iload_n hx hb d_Law_failing_6 rfl (lv_at hl 3 rfl) ?_
  refine lv_iload hx hb d_Law_failing_7 (lv_at hl 4 rfl) ?_
  rcases hr0 : p_failing mi ml w x s0 t with E | q0
  · have hE := p_failing_E hr0
    rcases hE with rfl | rfl | rfl
    · have hps : ∀ w9 ∈ ([] : zh_H), w9.2.2.2 ≠ 0 ∧ ∃ nm : String, Cond.classLink R_Law w9.2.2.2 nm ∈ zw_Tb ∧ (zt_I, nm) ∈ zt_nos := (fun w9 hw => nomatch hw)
      refine zx_callE X Zx Zz hB mv_Law_27 pl_Law_27 0 (hs 0 _ rfl) rfl (hr0 ▸ c_TS_failing hTr hn hs z hA mi ml w x s0 t h2) rfl hl.1 ⟨Nat.le_of_ble_eq_true rfl, Nat.le_of_ble_eq_true rfl⟩ rfl (Nat.le_of_ble_eq_true rfl) ⟨Nat.le_of_ble_eq_true rfl, Nat.le_of_ble_eq_true rfl⟩ htab [] (0, 14, 17, 13) [(0, 14, 21, 15), (0, 14, 25, 21)] rfl hps (by decide) (by decide) kx_13 ka_zt_I d_Law_failing_9 (fun H locs q hB => ?_)
      refine lv_astore (lv' := [(6, .ref q), (0, .ref (ad 0)), (1, .int w), (2, .int x), (3, .int s0), (4, .int t), (5, .ref (ad 30))]) hx hb d_Law_failing_17 hl (by decide) rfl (fun ls hl => ?_)
      refine lv_iconst (v := 1) hx hb d_Law_failing_19 (by decide) ?_
      exact zh_ret X hr hlocks hB (congrArg (fun v => some (Value.int v)) zh_kI.symm) rfl rfl (by decide) (by decide) d_Law_failing_20
    · have hps : ∀ w9 ∈ ([(0, 14, 17, 13)] : zh_H), w9.2.2.2 ≠ 0 ∧ ∃ nm : String, Cond.classLink R_Law w9.2.2.2 nm ∈ zw_Tb ∧ (zt_A, nm) ∈ zt_nos := (fun w9 hw => by
                simp only [List.mem_cons, List.not_mem_nil, or_false] at hw
                rcases hw with rfl
                · exact ⟨by decide, _, kx_13, by decide +kernel⟩)
      refine zx_callE X Zx Zz hB mv_Law_27 pl_Law_27 0 (hs 0 _ rfl) rfl (hr0 ▸ c_TS_failing hTr hn hs z hA mi ml w x s0 t h2) rfl hl.1 ⟨Nat.le_of_ble_eq_true rfl, Nat.le_of_ble_eq_true rfl⟩ rfl (Nat.le_of_ble_eq_true rfl) ⟨Nat.le_of_ble_eq_true rfl, Nat.le_of_ble_eq_true rfl⟩ htab [(0, 14, 17, 13)] (0, 14, 21, 15) [(0, 14, 25, 21)] rfl hps (by decide) (by decide) kx_15 ka_zt_A d_Law_failing_9 (fun H locs q hB => ?_)
      refine lv_astore (lv' := [(6, .ref q), (0, .ref (ad 0)), (1, .int w), (2, .int x), (3, .int s0), (4, .int t), (5, .ref (ad 30))]) hx hb d_Law_failing_21 hl (by decide) rfl (fun ls hl => ?_)
      refine lv_iconst (v := 2) hx hb d_Law_failing_23 (by decide) ?_
      exact zh_ret X hr hlocks hB (congrArg (fun v => some (Value.int v)) zh_kA.symm) rfl rfl (by decide) (by decide) d_Law_failing_24
    · have hps : ∀ w9 ∈ ([(0, 14, 17, 13), (0, 14, 21, 15)] : zh_H), w9.2.2.2 ≠ 0 ∧ ∃ nm : String, Cond.classLink R_Law w9.2.2.2 nm ∈ zw_Tb ∧ (zt_U, nm) ∈ zt_nos := (fun w9 hw => by
                simp only [List.mem_cons, List.not_mem_nil, or_false] at hw
                rcases hw with rfl | rfl
                · exact ⟨by decide, _, kx_13, by decide +kernel⟩
                · exact ⟨by decide, _, kx_15, by decide +kernel⟩)
      refine zx_callE X Zx Zz hB mv_Law_27 pl_Law_27 0 (hs 0 _ rfl) rfl (hr0 ▸ c_TS_failing hTr hn hs z hA mi ml w x s0 t h2) rfl hl.1 ⟨Nat.le_of_ble_eq_true rfl, Nat.le_of_ble_eq_true rfl⟩ rfl (Nat.le_of_ble_eq_true rfl) ⟨Nat.le_of_ble_eq_true rfl, Nat.le_of_ble_eq_true rfl⟩ htab [(0, 14, 17, 13), (0, 14, 21, 15)] (0, 14, 25, 21) [] rfl hps (by decide) (by decide) kx_21 ka_zt_U d_Law_failing_9 (fun H locs q hB => ?_)
      refine lv_astore (lv' := [(6, .ref q), (0, .ref (ad 0)), (1, .int w), (2, .int x), (3, .int s0), (4, .int t), (5, .ref (ad 30))]) hx hb d_Law_failing_25 hl (by decide) rfl (fun ls hl => ?_)
      refine lv_iconst (v := 3) hx hb d_Law_failing_27 (by decide) ?_
      exact zh_ret X hr hlocks hB (congrArg (fun v => some (Value.int v)) zh_kU.symm) rfl rfl (by decide) (by decide) d_Law_failing_28
  · obtain ⟨rv0, mi1, ml1⟩ := q0
    obtain ⟨v0, hv0⟩ := p_failing_R hr0
    have hv0 : rv0 = some (.int v0) := hv0
    subst hv0
    refine zx_callR X Zx Zz hB mv_Law_27 pl_Law_27 0 (hs 0 _ rfl) rfl (hr0 ▸ c_TS_failing hTr hn hs z hA mi ml w x s0 t h2) rfl hl.1 ⟨Nat.le_of_ble_eq_true rfl, Nat.le_of_ble_eq_true rfl⟩ rfl (Nat.le_of_ble_eq_true rfl) ⟨Nat.le_of_ble_eq_true rfl, Nat.le_of_ble_eq_true rfl⟩ d_Law_failing_9 (fun H locs hB => ?_)
    refine lv_i2l (v := v0.toInt64) hx hb d_Law_failing_12 rfl ?_
    refine zw_last X hB 30 ho zh_01 d_Law_failing_13 (fun H locs hB => ?_)
    refine lv_goto (tgt := 29) hx hb d_Law_failing_14 (by decide) ?_
    refine lv_iconst (v := 0) hx hb d_Law_failing_29 (by decide) ?_
    exact zh_ret X hr hlocks hB rfl rfl rfl (by decide) (by decide) d_Law_failing_30

set_option maxHeartbeats 4000000 in
set_option maxRecDepth 100000 in
theorem c_Law_stop {l : Launch} (hTr : l.stackTraces = false) {D : va_G} {cA : Nat → ClassId} {ad : Nat → Nat} {sh : zw_Sh} {n : Nat} (hn : n ≤ 16) (hs : ∀ (k : Nat) (q : zw_Sp), shX n k = some q → sh k = some q) (ho : sh 30 = some (.inr (1, 1, 0))) {b : Nat} (z : Nat) (hA : ∀ q, zw_A ad sh z q → b ≤ q) (mi : zw_I) (ml : zw_L) (x : Int32) :
    zh_M l D cA Y_Law_stop [(0, 9, 12, 13)] 7 b ad sh z [.ref (ad 0), .int x, .ref (ad 30)] mi ml (zh_c zh_k (p_stop mi ml x)) (zh_i mi (p_stop mi ml x)) (zh_l ml (p_stop mi ml x)) (z + zh_z (p_stop mi ml x)) := by
  refine zh_enter (own := R_Law) (by decide) rfl (Nat.le_of_ble_eq_true rfl) ?_
  intro p e s m below meth c X hr hlocks hB Zx Zz htab ls hl
  have X : zw_C D cA R_Law method_7_code 4 p m c s := X
  have hr : meth.sig.returnType = (some FieldType.int) := hr
  have hx := X.1
  have hb := X.2.1
  have hl : lv_has ls 4 [(0, .ref (ad 0)), (1, .int x), (2, .ref (ad 30))] := hl
  refine lv_aload_n hx hb d_Law_stop_0 rfl (lv_at hl 2 rfl) ?_
  refine lv_iconst (v := 0) hx hb d_Law_stop_1 (by decide) ?_
  refine lv_aload_n hx hb d_Law_stop_2 rfl (lv_at hl 0 rfl) ?_
  refine lv_iload_n hx hb d_Law_stop_3 rfl (lv_at hl 1 rfl) ?_
  rcases hr0 : p_stop mi ml x with E | q0
  · have hE := p_stop_E hr0
    subst hE
    have hps : ∀ w9 ∈ ([] : zh_H), w9.2.2.2 ≠ 0 ∧ ∃ nm : String, Cond.classLink R_Law w9.2.2.2 nm ∈ zw_Tb ∧ (zt_I, nm) ∈ zt_nos := (fun w9 hw => nomatch hw)
    refine zx_callE X Zx Zz hB mv_Law_30 pl_Law_30 0 (hs 0 _ rfl) rfl (hr0 ▸ c_TS_stop hTr hn hs z hA mi ml x) rfl hl.1 ⟨Nat.le_of_ble_eq_true rfl, Nat.le_of_ble_eq_true rfl⟩ rfl (Nat.le_of_ble_eq_true rfl) ⟨Nat.le_of_ble_eq_true rfl, Nat.le_of_ble_eq_true rfl⟩ htab [] (0, 9, 12, 13) [] rfl hps (by decide) (by decide) kx_13 ka_zt_I d_Law_stop_4 (fun H locs q hB => ?_)
    refine lv_astore_n (lv' := [(3, .ref q), (0, .ref (ad 0)), (1, .int x), (2, .ref (ad 30))]) hx hb d_Law_stop_12 rfl hl (by decide) rfl (fun ls hl => ?_)
    refine lv_iconst (v := 1) hx hb d_Law_stop_13 (by decide) ?_
    exact zh_ret X hr hlocks hB (congrArg (fun v => some (Value.int v)) zh_kI.symm) rfl rfl (by decide) (by decide) d_Law_stop_14
  · obtain ⟨rv0, mi1, ml1⟩ := q0
    obtain ⟨v0, hv0⟩ := p_stop_R hr0
    have hv0 : rv0 = some (.int v0) := hv0
    subst hv0
    refine zx_callR X Zx Zz hB mv_Law_30 pl_Law_30 0 (hs 0 _ rfl) rfl (hr0 ▸ c_TS_stop hTr hn hs z hA mi ml x) rfl hl.1 ⟨Nat.le_of_ble_eq_true rfl, Nat.le_of_ble_eq_true rfl⟩ rfl (Nat.le_of_ble_eq_true rfl) ⟨Nat.le_of_ble_eq_true rfl, Nat.le_of_ble_eq_true rfl⟩ d_Law_stop_4 (fun H locs hB => ?_)
    refine lv_i2l (v := v0.toInt64) hx hb d_Law_stop_7 rfl ?_
    refine zw_last X hB 30 ho zh_01 d_Law_stop_8 (fun H locs hB => ?_)
    refine lv_goto (tgt := 15) hx hb d_Law_stop_9 (by decide) ?_
    refine lv_iconst (v := 0) hx hb d_Law_stop_15 (by decide) ?_
    exact zh_ret X hr hlocks hB rfl rfl rfl (by decide) (by decide) d_Law_stop_16

set_option maxHeartbeats 4000000 in
set_option maxRecDepth 100000 in
theorem c_Law_run {l : Launch} (hTr : l.stackTraces = false) {D : va_G} {cA : Nat → ClassId} {ad : Nat → Nat} {sh : zw_Sh} {n : Nat} (hn : n ≤ 16) (hs : ∀ (k : Nat) (q : zw_Sp), shX n k = some q → sh k = some q) (ho : sh 30 = some (.inr (1, 1, 0))) {b : Nat} (z : Nat) (hA : ∀ q, zw_A ad sh z q → b ≤ q) (mi : zw_I) (ml : zw_L) (wk : Int32) (x : Int64) (w : Nat) (h1 : ¬ p_within wk 1 16 = 0 → w ≤ 16 ∧ wk = nI w) (hI : zi n mi) (G : zw_I → Prop) (hG : zg_K n G) (hG0 : ¬ p_within wk 1 16 = 0 → G (p_prep n wk mi ml).1) (ht0 : (p_prep n wk mi ml).1 5 11 = 0) (htk : ∀ (wk : Int32) (mi : zw_I) (ml : zw_L), (p_tick n wk mi ml).2.1 5 11 = mi 5 11) (h7 : ∀ i : Nat, i < n → vp_in ((p_go n wk x mi ml).2.1 7 i) 21) :
    zh_M l D cA Y_Law_run [(0, 11, 14, 15)] 7 b ad sh z [.ref (ad 0), .int wk, .long x, .ref (ad 30)] mi ml (zh_c zh_k1 (p_run n mi ml wk x)) (zh_i mi (p_run n mi ml wk x)) (zh_l ml (p_run n mi ml wk x)) (z + zh_z (p_run n mi ml wk x)) := by
  refine zh_enter (own := R_Law) (by decide) rfl (Nat.le_of_ble_eq_true rfl) ?_
  intro p e s m below meth c X hr hlocks hB Zx Zz htab ls hl
  have X : zw_C D cA R_Law method_8_code 6 p m c s := X
  have hr : meth.sig.returnType = (some FieldType.int) := hr
  have hx := X.1
  have hb := X.2.1
  have hl : lv_has ls 6 [(0, .ref (ad 0)), (1, .int wk), (2, .long x), (4, .ref (ad 30))] := hl
  refine lv_aload hx hb d_Law_run_0 (lv_at hl 3 rfl) ?_
  refine lv_iconst (v := 0) hx hb d_Law_run_2 (by decide) ?_
  refine lv_aload_n hx hb d_Law_run_3 rfl (lv_at hl 0 rfl) ?_
  refine lv_iload_n hx hb d_Law_run_4 rfl (lv_at hl 1 rfl) ?_
  refine lv_lload_n hx hb d_Law_run_5 rfl (lv_at hl 2 rfl) ?_
  rcases hr0 : p_run n mi ml wk x with E | q0
  · have hE := p_run_E hr0
    subst hE
    have hps : ∀ w9 ∈ ([] : zh_H), w9.2.2.2 ≠ 0 ∧ ∃ nm : String, Cond.classLink R_Law w9.2.2.2 nm ∈ zw_Tb ∧ (zt_A, nm) ∈ zt_nos := (fun w9 hw => nomatch hw)
    refine zx_callE X Zx Zz hB mv_Law_33 pl_Law_33 0 (hs 0 _ rfl) rfl (hr0 ▸ c_TS_run hTr hn hs z hA mi ml wk x w h1 hI G hG hG0 ht0 htk h7) rfl hl.1 ⟨Nat.le_of_ble_eq_true rfl, Nat.le_of_ble_eq_true rfl⟩ rfl (Nat.le_of_ble_eq_true rfl) ⟨Nat.le_of_ble_eq_true rfl, Nat.le_of_ble_eq_true rfl⟩ htab [] (0, 11, 14, 15) [] rfl hps (by decide) (by decide) kx_15 ka_zt_A d_Law_run_6 (fun H locs q hB => ?_)
    refine lv_astore (lv' := [(5, .ref q), (0, .ref (ad 0)), (1, .int wk), (2, .long x), (4, .ref (ad 30))]) hx hb d_Law_run_14 hl (by decide) rfl (fun ls hl => ?_)
    refine lv_iconst (v := 1) hx hb d_Law_run_16 (by decide) ?_
    exact zh_ret X hr hlocks hB rfl rfl rfl (by decide) (by decide) d_Law_run_17
  · obtain ⟨rv0, mi1, ml1⟩ := q0
    obtain ⟨v0, hv0⟩ := p_run_R hr0
    have hv0 : rv0 = some (.int v0) := hv0
    subst hv0
    refine zx_callR X Zx Zz hB mv_Law_33 pl_Law_33 0 (hs 0 _ rfl) rfl (hr0 ▸ c_TS_run hTr hn hs z hA mi ml wk x w h1 hI G hG hG0 ht0 htk h7) rfl hl.1 ⟨Nat.le_of_ble_eq_true rfl, Nat.le_of_ble_eq_true rfl⟩ rfl (Nat.le_of_ble_eq_true rfl) ⟨Nat.le_of_ble_eq_true rfl, Nat.le_of_ble_eq_true rfl⟩ d_Law_run_6 (fun H locs hB => ?_)
    refine lv_i2l (v := v0.toInt64) hx hb d_Law_run_9 rfl ?_
    refine zw_last X hB 30 ho zh_01 d_Law_run_10 (fun H locs hB => ?_)
    refine lv_goto (tgt := 18) hx hb d_Law_run_11 (by decide) ?_
    refine lv_iconst (v := 0) hx hb d_Law_run_18 (by decide) ?_
    exact zh_ret X hr hlocks hB rfl rfl rfl (by decide) (by decide) d_Law_run_19

set_option maxHeartbeats 4000000 in
set_option maxRecDepth 100000 in
theorem c_Law_at {l : Launch} (hTr : l.stackTraces = false) {D : va_G} {cA : Nat → ClassId} {ad : Nat → Nat} {sh : zw_Sh} {n : Nat} (hn : n ≤ 16) (hs : ∀ (k : Nat) (q : zw_Sp), shX n k = some q → sh k = some q) (ho : sh 30 = some (.inr (1, 1, 0))) {b : Nat} (z : Nat) (hA : ∀ q, zw_A ad sh z q → b ≤ q) (mi : zw_I) (ml : zw_L) (x : Int32) (h1 : ∀ x : Int32, ¬ p_isShare mi x = 0 → vp_in x n) :
    zh_M l D cA Y_Law_at [(0, 8, 11, 13), (0, 8, 14, 41)] 7 b ad sh z [.ref (ad 0), .int x, .ref (ad 30)] mi ml (zh_c zh_k (p_at mi ml x)) (zh_i mi (p_at mi ml x)) (zh_l ml (p_at mi ml x)) (z + zh_z (p_at mi ml x)) := by
  refine zh_enter (own := R_Law) (by decide) rfl (Nat.le_of_ble_eq_true rfl) ?_
  intro p e s m below meth c X hr hlocks hB Zx Zz htab ls hl
  have X : zw_C D cA R_Law method_9_code 4 p m c s := X
  have hr : meth.sig.returnType = (some FieldType.int) := hr
  have hx := X.1
  have hb := X.2.1
  have hl : lv_has ls 4 [(0, .ref (ad 0)), (1, .int x), (2, .ref (ad 30))] := hl
  refine lv_aload_n hx hb d_Law_at_0 rfl (lv_at hl 2 rfl) ?_
  refine lv_iconst (v := 0) hx hb d_Law_at_1 (by decide) ?_
  refine lv_aload_n hx hb d_Law_at_2 rfl (lv_at hl 0 rfl) ?_
  refine lv_iload_n hx hb d_Law_at_3 rfl (lv_at hl 1 rfl) ?_
  rcases hr0 : p_at mi ml x with E | q0
  · have hE := p_at_E hr0
    rcases hE with rfl | rfl
    · have hps : ∀ w9 ∈ ([] : zh_H), w9.2.2.2 ≠ 0 ∧ ∃ nm : String, Cond.classLink R_Law w9.2.2.2 nm ∈ zw_Tb ∧ (zt_I, nm) ∈ zt_nos := (fun w9 hw => nomatch hw)
      refine zx_callE X Zx Zz hB mv_Law_37 pl_Law_37 0 (hs 0 _ rfl) rfl (hr0 ▸ c_TS_at hTr hn hs z hA mi ml x h1) rfl hl.1 ⟨Nat.le_of_ble_eq_true rfl, Nat.le_of_ble_eq_true rfl⟩ rfl (Nat.le_of_ble_eq_true rfl) ⟨Nat.le_of_ble_eq_true rfl, Nat.le_of_ble_eq_true rfl⟩ htab [] (0, 8, 11, 13) [(0, 8, 14, 41)] rfl hps (by decide) (by decide) kx_13 ka_zt_I d_Law_at_4 (fun H locs q hB => ?_)
      refine lv_astore_n (lv' := [(3, .ref q), (0, .ref (ad 0)), (1, .int x), (2, .ref (ad 30))]) hx hb d_Law_at_11 rfl hl (by decide) rfl (fun ls hl => ?_)
      refine lv_iconst (v := 1) hx hb d_Law_at_12 (by decide) ?_
      exact zh_ret X hr hlocks hB (congrArg (fun v => some (Value.int v)) zh_kI.symm) rfl rfl (by decide) (by decide) d_Law_at_13
    · have hps : ∀ w9 ∈ ([(0, 8, 11, 13)] : zh_H), w9.2.2.2 ≠ 0 ∧ ∃ nm : String, Cond.classLink R_Law w9.2.2.2 nm ∈ zw_Tb ∧ (zt_S, nm) ∈ zt_nos := (fun w9 hw => by
                simp only [List.mem_cons, List.not_mem_nil, or_false] at hw
                rcases hw with rfl
                · exact ⟨by decide, _, kx_13, by decide +kernel⟩)
      refine zx_callE X Zx Zz hB mv_Law_37 pl_Law_37 0 (hs 0 _ rfl) rfl (hr0 ▸ c_TS_at hTr hn hs z hA mi ml x h1) rfl hl.1 ⟨Nat.le_of_ble_eq_true rfl, Nat.le_of_ble_eq_true rfl⟩ rfl (Nat.le_of_ble_eq_true rfl) ⟨Nat.le_of_ble_eq_true rfl, Nat.le_of_ble_eq_true rfl⟩ htab [(0, 8, 11, 13)] (0, 8, 14, 41) [] rfl hps (by decide) (by decide) kx_41 ka_zt_S d_Law_at_4 (fun H locs q hB => ?_)
      refine lv_astore_n (lv' := [(3, .ref q), (0, .ref (ad 0)), (1, .int x), (2, .ref (ad 30))]) hx hb d_Law_at_14 rfl hl (by decide) rfl (fun ls hl => ?_)
      refine lv_iconst (v := 2) hx hb d_Law_at_15 (by decide) ?_
      exact zh_ret X hr hlocks hB (congrArg (fun v => some (Value.int v)) zh_kS.symm) rfl rfl (by decide) (by decide) d_Law_at_16
  · obtain ⟨rv0, mi1, ml1⟩ := q0
    obtain ⟨v0, hv0⟩ := p_at_R hr0
    have hv0 : rv0 = some (.long v0) := hv0
    subst hv0
    refine zx_callR X Zx Zz hB mv_Law_37 pl_Law_37 0 (hs 0 _ rfl) rfl (hr0 ▸ c_TS_at hTr hn hs z hA mi ml x h1) rfl hl.1 ⟨Nat.le_of_ble_eq_true rfl, Nat.le_of_ble_eq_true rfl⟩ rfl (Nat.le_of_ble_eq_true rfl) ⟨Nat.le_of_ble_eq_true rfl, Nat.le_of_ble_eq_true rfl⟩ d_Law_at_4 (fun H locs hB => ?_)
    refine zw_last X hB 30 ho zh_01 d_Law_at_7 (fun H locs hB => ?_)
    refine lv_goto (tgt := 17) hx hb d_Law_at_8 (by decide) ?_
    refine lv_iconst (v := 0) hx hb d_Law_at_17 (by decide) ?_
    exact zh_ret X hr hlocks hB rfl rfl rfl (by decide) (by decide) d_Law_at_18

set_option maxHeartbeats 4000000 in
set_option maxRecDepth 100000 in
theorem c_Law_order {l : Launch} (hTr : l.stackTraces = false) {D : va_G} {cA : Nat → ClassId} {ad : Nat → Nat} {sh : zw_Sh} {n : Nat} (hn : n ≤ 16) (hs : ∀ (k : Nat) (q : zw_Sp), shX n k = some q → sh k = some q) (ho : sh 30 = some (.inr (1, 1, 0))) {b : Nat} (z : Nat) (hA : ∀ q, zw_A ad sh z q → b ≤ q) (mi : zw_I) (ml : zw_L) (x : Int32) (h2 : ¬ p_within x 0 (mi 5 8 - 1) = 0 → vp_in x n) :
    zh_M l D cA Y_Law_order [(0, 9, 12, 13)] 7 b ad sh z [.ref (ad 0), .int x, .ref (ad 30)] mi ml (zh_c zh_k (p_order mi ml x)) (zh_i mi (p_order mi ml x)) (zh_l ml (p_order mi ml x)) (z + zh_z (p_order mi ml x)) := by
  refine zh_enter (own := R_Law) (by decide) rfl (Nat.le_of_ble_eq_true rfl) ?_
  intro p e s m below meth c X hr hlocks hB Zx Zz htab ls hl
  have X : zw_C D cA R_Law method_10_code 4 p m c s := X
  have hr : meth.sig.returnType = (some FieldType.int) := hr
  have hx := X.1
  have hb := X.2.1
  have hl : lv_has ls 4 [(0, .ref (ad 0)), (1, .int x), (2, .ref (ad 30))] := hl
  refine lv_aload_n hx hb d_Law_order_0 rfl (lv_at hl 2 rfl) ?_
  refine lv_iconst (v := 0) hx hb d_Law_order_1 (by decide) ?_
  refine lv_aload_n hx hb d_Law_order_2 rfl (lv_at hl 0 rfl) ?_
  refine lv_iload_n hx hb d_Law_order_3 rfl (lv_at hl 1 rfl) ?_
  rcases hr0 : p_order mi ml x with E | q0
  · have hE := p_order_E hr0
    subst hE
    have hps : ∀ w9 ∈ ([] : zh_H), w9.2.2.2 ≠ 0 ∧ ∃ nm : String, Cond.classLink R_Law w9.2.2.2 nm ∈ zw_Tb ∧ (zt_I, nm) ∈ zt_nos := (fun w9 hw => nomatch hw)
    refine zx_callE X Zx Zz hB mv_Law_43 pl_Law_43 0 (hs 0 _ rfl) rfl (hr0 ▸ c_TS_order hTr hn hs z hA mi ml x h2) rfl hl.1 ⟨Nat.le_of_ble_eq_true rfl, Nat.le_of_ble_eq_true rfl⟩ rfl (Nat.le_of_ble_eq_true rfl) ⟨Nat.le_of_ble_eq_true rfl, Nat.le_of_ble_eq_true rfl⟩ htab [] (0, 9, 12, 13) [] rfl hps (by decide) (by decide) kx_13 ka_zt_I d_Law_order_4 (fun H locs q hB => ?_)
    refine lv_astore_n (lv' := [(3, .ref q), (0, .ref (ad 0)), (1, .int x), (2, .ref (ad 30))]) hx hb d_Law_order_12 rfl hl (by decide) rfl (fun ls hl => ?_)
    refine lv_iconst (v := 1) hx hb d_Law_order_13 (by decide) ?_
    exact zh_ret X hr hlocks hB (congrArg (fun v => some (Value.int v)) zh_kI.symm) rfl rfl (by decide) (by decide) d_Law_order_14
  · obtain ⟨rv0, mi1, ml1⟩ := q0
    obtain ⟨v0, hv0⟩ := p_order_R hr0
    have hv0 : rv0 = some (.int v0) := hv0
    subst hv0
    refine zx_callR X Zx Zz hB mv_Law_43 pl_Law_43 0 (hs 0 _ rfl) rfl (hr0 ▸ c_TS_order hTr hn hs z hA mi ml x h2) rfl hl.1 ⟨Nat.le_of_ble_eq_true rfl, Nat.le_of_ble_eq_true rfl⟩ rfl (Nat.le_of_ble_eq_true rfl) ⟨Nat.le_of_ble_eq_true rfl, Nat.le_of_ble_eq_true rfl⟩ d_Law_order_4 (fun H locs hB => ?_)
    refine lv_i2l (v := v0.toInt64) hx hb d_Law_order_7 rfl ?_
    refine zw_last X hB 30 ho zh_01 d_Law_order_8 (fun H locs hB => ?_)
    refine lv_goto (tgt := 15) hx hb d_Law_order_9 (by decide) ?_
    refine lv_iconst (v := 0) hx hb d_Law_order_15 (by decide) ?_
    exact zh_ret X hr hlocks hB rfl rfl rfl (by decide) (by decide) d_Law_order_16

set_option maxHeartbeats 4000000 in
set_option maxRecDepth 100000 in
theorem c_Law_begun {l : Launch} (hTr : l.stackTraces = false) {D : va_G} {cA : Nat → ClassId} {ad : Nat → Nat} {sh : zw_Sh} {n : Nat} (hn : n ≤ 16) (hs : ∀ (k : Nat) (q : zw_Sp), shX n k = some q → sh k = some q) (ho : sh 30 = some (.inr (1, 1, 0))) {b : Nat} (z : Nat) (hA : ∀ q, zw_A ad sh z q → b ≤ q) (mi : zw_I) (ml : zw_L) (x : Int32) (h1 : ∀ x : Int32, ¬ p_isShare mi x = 0 → vp_in x n) :
    zh_M l D cA Y_Law_begun [(0, 9, 12, 13)] 7 b ad sh z [.ref (ad 0), .int x, .ref (ad 30)] mi ml (zh_c zh_k (p_begun mi ml x)) (zh_i mi (p_begun mi ml x)) (zh_l ml (p_begun mi ml x)) (z + zh_z (p_begun mi ml x)) := by
  refine zh_enter (own := R_Law) (by decide) rfl (Nat.le_of_ble_eq_true rfl) ?_
  intro p e s m below meth c X hr hlocks hB Zx Zz htab ls hl
  have X : zw_C D cA R_Law method_11_code 4 p m c s := X
  have hr : meth.sig.returnType = (some FieldType.int) := hr
  have hx := X.1
  have hb := X.2.1
  have hl : lv_has ls 4 [(0, .ref (ad 0)), (1, .int x), (2, .ref (ad 30))] := hl
  refine lv_aload_n hx hb d_Law_begun_0 rfl (lv_at hl 2 rfl) ?_
  refine lv_iconst (v := 0) hx hb d_Law_begun_1 (by decide) ?_
  refine lv_aload_n hx hb d_Law_begun_2 rfl (lv_at hl 0 rfl) ?_
  refine lv_iload_n hx hb d_Law_begun_3 rfl (lv_at hl 1 rfl) ?_
  rcases hr0 : p_begun mi ml x with E | q0
  · have hE := p_begun_E hr0
    subst hE
    have hps : ∀ w9 ∈ ([] : zh_H), w9.2.2.2 ≠ 0 ∧ ∃ nm : String, Cond.classLink R_Law w9.2.2.2 nm ∈ zw_Tb ∧ (zt_I, nm) ∈ zt_nos := (fun w9 hw => nomatch hw)
    refine zx_callE X Zx Zz hB mv_Law_46 pl_Law_46 0 (hs 0 _ rfl) rfl (hr0 ▸ c_TS_begun hTr hn hs z hA mi ml x h1) rfl hl.1 ⟨Nat.le_of_ble_eq_true rfl, Nat.le_of_ble_eq_true rfl⟩ rfl (Nat.le_of_ble_eq_true rfl) ⟨Nat.le_of_ble_eq_true rfl, Nat.le_of_ble_eq_true rfl⟩ htab [] (0, 9, 12, 13) [] rfl hps (by decide) (by decide) kx_13 ka_zt_I d_Law_begun_4 (fun H locs q hB => ?_)
    refine lv_astore_n (lv' := [(3, .ref q), (0, .ref (ad 0)), (1, .int x), (2, .ref (ad 30))]) hx hb d_Law_begun_12 rfl hl (by decide) rfl (fun ls hl => ?_)
    refine lv_iconst (v := 1) hx hb d_Law_begun_13 (by decide) ?_
    exact zh_ret X hr hlocks hB (congrArg (fun v => some (Value.int v)) zh_kI.symm) rfl rfl (by decide) (by decide) d_Law_begun_14
  · obtain ⟨rv0, mi1, ml1⟩ := q0
    obtain ⟨v0, hv0⟩ := p_begun_R hr0
    have hv0 : rv0 = some (.int v0) := hv0
    subst hv0
    refine zx_callR X Zx Zz hB mv_Law_46 pl_Law_46 0 (hs 0 _ rfl) rfl (hr0 ▸ c_TS_begun hTr hn hs z hA mi ml x h1) rfl hl.1 ⟨Nat.le_of_ble_eq_true rfl, Nat.le_of_ble_eq_true rfl⟩ rfl (Nat.le_of_ble_eq_true rfl) ⟨Nat.le_of_ble_eq_true rfl, Nat.le_of_ble_eq_true rfl⟩ d_Law_begun_4 (fun H locs hB => ?_)
    refine lv_i2l (v := v0.toInt64) hx hb d_Law_begun_7 rfl ?_
    refine zw_last X hB 30 ho zh_01 d_Law_begun_8 (fun H locs hB => ?_)
    refine lv_goto (tgt := 15) hx hb d_Law_begun_9 (by decide) ?_
    refine lv_iconst (v := 0) hx hb d_Law_begun_15 (by decide) ?_
    exact zh_ret X hr hlocks hB rfl rfl rfl (by decide) (by decide) d_Law_begun_16

set_option maxHeartbeats 4000000 in
set_option maxRecDepth 100000 in
theorem c_Law_waited {l : Launch} (hTr : l.stackTraces = false) {D : va_G} {cA : Nat → ClassId} {ad : Nat → Nat} {sh : zw_Sh} {n : Nat} (hn : n ≤ 16) (hs : ∀ (k : Nat) (q : zw_Sp), shX n k = some q → sh k = some q) (ho : sh 30 = some (.inr (1, 1, 0))) {b : Nat} (z : Nat) (hA : ∀ q, zw_A ad sh z q → b ≤ q) (mi : zw_I) (ml : zw_L) (x : Int32) (y : Int32) (h1 : ∀ x : Int32, ¬ p_isShare mi x = 0 → vp_in x n) :
    zh_M l D cA Y_Law_waited [(0, 10, 13, 13)] 7 b ad sh z [.ref (ad 0), .int x, .int y, .ref (ad 30)] mi ml (zh_c zh_k (p_waited mi ml x y)) (zh_i mi (p_waited mi ml x y)) (zh_l ml (p_waited mi ml x y)) (z + zh_z (p_waited mi ml x y)) := by
  refine zh_enter (own := R_Law) (by decide) rfl (Nat.le_of_ble_eq_true rfl) ?_
  intro p e s m below meth c X hr hlocks hB Zx Zz htab ls hl
  have X : zw_C D cA R_Law method_12_code 5 p m c s := X
  have hr : meth.sig.returnType = (some FieldType.int) := hr
  have hx := X.1
  have hb := X.2.1
  have hl : lv_has ls 5 [(0, .ref (ad 0)), (1, .int x), (2, .int y), (3, .ref (ad 30))] := hl
  refine lv_aload_n hx hb d_Law_waited_0 rfl (lv_at hl 3 rfl) ?_
  refine lv_iconst (v := 0) hx hb d_Law_waited_1 (by decide) ?_
  refine lv_aload_n hx hb d_Law_waited_2 rfl (lv_at hl 0 rfl) ?_
  refine lv_iload_n hx hb d_Law_waited_3 rfl (lv_at hl 1 rfl) ?_
  refine lv_iload_n hx hb d_Law_waited_4 rfl (lv_at hl 2 rfl) ?_
  rcases hr0 : p_waited mi ml x y with E | q0
  · have hE := p_waited_E hr0
    subst hE
    have hps : ∀ w9 ∈ ([] : zh_H), w9.2.2.2 ≠ 0 ∧ ∃ nm : String, Cond.classLink R_Law w9.2.2.2 nm ∈ zw_Tb ∧ (zt_I, nm) ∈ zt_nos := (fun w9 hw => nomatch hw)
    refine zx_callE X Zx Zz hB mv_Law_49 pl_Law_49 0 (hs 0 _ rfl) rfl (hr0 ▸ c_TS_waited hTr hn hs z hA mi ml x y h1) rfl hl.1 ⟨Nat.le_of_ble_eq_true rfl, Nat.le_of_ble_eq_true rfl⟩ rfl (Nat.le_of_ble_eq_true rfl) ⟨Nat.le_of_ble_eq_true rfl, Nat.le_of_ble_eq_true rfl⟩ htab [] (0, 10, 13, 13) [] rfl hps (by decide) (by decide) kx_13 ka_zt_I d_Law_waited_5 (fun H locs q hB => ?_)
    refine lv_astore (lv' := [(4, .ref q), (0, .ref (ad 0)), (1, .int x), (2, .int y), (3, .ref (ad 30))]) hx hb d_Law_waited_13 hl (by decide) rfl (fun ls hl => ?_)
    refine lv_iconst (v := 1) hx hb d_Law_waited_15 (by decide) ?_
    exact zh_ret X hr hlocks hB (congrArg (fun v => some (Value.int v)) zh_kI.symm) rfl rfl (by decide) (by decide) d_Law_waited_16
  · obtain ⟨rv0, mi1, ml1⟩ := q0
    obtain ⟨v0, hv0⟩ := p_waited_R hr0
    have hv0 : rv0 = some (.int v0) := hv0
    subst hv0
    refine zx_callR X Zx Zz hB mv_Law_49 pl_Law_49 0 (hs 0 _ rfl) rfl (hr0 ▸ c_TS_waited hTr hn hs z hA mi ml x y h1) rfl hl.1 ⟨Nat.le_of_ble_eq_true rfl, Nat.le_of_ble_eq_true rfl⟩ rfl (Nat.le_of_ble_eq_true rfl) ⟨Nat.le_of_ble_eq_true rfl, Nat.le_of_ble_eq_true rfl⟩ d_Law_waited_5 (fun H locs hB => ?_)
    refine lv_i2l (v := v0.toInt64) hx hb d_Law_waited_8 rfl ?_
    refine zw_last X hB 30 ho zh_01 d_Law_waited_9 (fun H locs hB => ?_)
    refine lv_goto (tgt := 17) hx hb d_Law_waited_10 (by decide) ?_
    refine lv_iconst (v := 0) hx hb d_Law_waited_17 (by decide) ?_
    exact zh_ret X hr hlocks hB rfl rfl rfl (by decide) (by decide) d_Law_waited_18

set_option maxRecDepth 100000 in
theorem c_Law_cell {l : Launch} {D : va_G} {cA : Nat → ClassId} {ad : Nat → Nat} {sh : zw_Sh} {b L : Nat} {xs : Nat → Int32} (z : Nat) (hA : ¬ zw_A ad sh z b) (mi : zw_I) (ml : zw_L) (x : Int32) (hin : ¬ nI L ≤ x → vp_in x L) :
    Met l Y_Law_cell.1 [Cond.code Y_Law_cell.1 Y_Law_cell.2.1 Y_Law_cell.2.2.1 Y_Law_cell.2.2.2] (zc_R 0 0 0) (zk_P D cA ad sh mi ml z b L xs [.ref b, .int x]) (zc_Q D cA ad sh sh z (some (.int (zk_r L xs x))) mi ml z) 0 0 (zw_A ad sh z) := by
  refine Met.ofW (cc := method_2_code) (maxL := 2) (ret := some .int) (by decide) rfl ?_
  intro p e s m args below meth c s₁ B hml hv
  obtain ⟨⟨rfl, hE, hW, hJ, hz⟩, hX⟩ := hv
  have hx := B.exec
  have hb : c.code = method_2_code := B.bytes
  have hr : meth.sig.returnType = some .int := B.returns
  have hlocks := B.notSynchronized
  have hown : s.vm.findClass R_Law = some m.cls := findClass_of_methodNamed B.named
  have X : zw_C D cA R_Law method_2_code 2 p m c s := ⟨hx, hb, hml, hown, hE⟩
  have hB : zw_B D cA ad sh (zw_A ad sh z) s.heap mi ml z s.heap [] := ⟨hW, hJ, fun k q hk => Or.inl ⟨k, q, hk, rfl⟩, va_S.rf, hz, fun q h => Or.inr (by rw [← hz]; exact h)⟩
  have hbl : b < s.heap.size := by
    obtain ⟨scr, h1, -⟩ := hX
    exact (Array.getElem?_eq_some_iff.mp h1).1
  rw [lg_entry_eq]
  have hl := lv_entry ([.ref b, .int x] : List Value) (n := 2) (Nat.le_of_ble_eq_true rfl)
  generalize (lg_sl ([.ref b, .int x] : List Value) ++ List.replicate (2 - (lg_sl ([.ref b, .int x] : List Value)).length) Slot.unset).toArray = ls at hl ⊢
  have hl : lv_has ls 2 [(0, .ref b), (1, .int x)] := hl
  unfold zk_r
  refine lv_iload_n hx hb d_Law_cell_0 rfl (lv_at hl 1 rfl) ?_
  refine lv_aload_n hx hb d_Law_cell_1 rfl (lv_at hl 0 rfl) ?_
  refine va_slen hx hb hX hbl hA hB.2.2.2.1 d_Law_cell_2 ?_
  refine lv_icmp_ge (tgt := 12) hx hb d_Law_cell_3 (by decide) (fun c_3 => ?_) (fun c_3 => ?_)
  · rw [if_pos (show nI L ≤ x from c_3)]
    refine lv_iconst (v := 0) hx hb d_Law_cell_12 (by decide) ?_
    exact zc_iret X hr hlocks hB rfl rfl rfl d_Law_cell_13
  · rw [if_neg (show ¬ nI L ≤ x from c_3)]
    refine lv_aload_n hx hb d_Law_cell_6 rfl (lv_at hl 0 rfl) ?_
    refine lv_iload_n hx hb d_Law_cell_7 rfl (lv_at hl 1 rfl) ?_
    refine va_sld hx hb hX hbl hA hB.2.2.2.1 (hin c_3) d_Law_cell_8 ?_
    refine lv_goto (tgt := 13) hx hb d_Law_cell_9 (by decide) ?_
    exact zc_iret X hr hlocks hB rfl rfl rfl d_Law_cell_13
