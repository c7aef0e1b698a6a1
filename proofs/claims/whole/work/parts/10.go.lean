abbrev Y_Course_tick : zc_Y := (⟨R_Course, "tick", "(I)Z"⟩, prog_2_method_9_code, 4, (some FieldType.boolean))
abbrev Y_Course_go : zc_Y := (⟨R_Course, "go", "(IJ)I"⟩, prog_2_method_3_code, 7, (some FieldType.int))
theorem d_Course_tick_0 : decode prog_2_method_9_code 0 = .ok (.iload_n 1, 1) := by decide +kernel
theorem d_Course_tick_1 : decode prog_2_method_9_code 1 = .ok (.iconst (-1), 1) := by decide +kernel
theorem d_Course_tick_2 : decode prog_2_method_9_code 2 = .ok (.if_icmp .ne 5, 3) := by decide +kernel
theorem d_Course_tick_5 : decode prog_2_method_9_code 5 = .ok (.iconst 0, 1) := by decide +kernel
theorem d_Course_tick_6 : decode prog_2_method_9_code 6 = .ok (.ireturn, 1) := by decide +kernel
theorem d_Course_tick_7 : decode prog_2_method_9_code 7 = .ok (.aload_n 0, 1) := by decide +kernel
theorem d_Course_tick_8 : decode prog_2_method_9_code 8 = .ok (.getfield 33, 3) := by decide +kernel
theorem d_Course_tick_11 : decode prog_2_method_9_code 11 = .ok (.getfield 132, 3) := by decide +kernel
theorem d_Course_tick_14 : decode prog_2_method_9_code 14 = .ok (.iload_n 1, 1) := by decide +kernel
theorem d_Course_tick_15 : decode prog_2_method_9_code 15 = .ok (.iaload, 1) := by decide +kernel
theorem d_Course_tick_16 : decode prog_2_method_9_code 16 = .ok (.istore_n 2, 1) := by decide +kernel
theorem d_Course_tick_17 : decode prog_2_method_9_code 17 = .ok (.iload_n 2, 1) := by decide +kernel
theorem d_Course_tick_18 : decode prog_2_method_9_code 18 = .ok (.iconst (-1), 1) := by decide +kernel
theorem d_Course_tick_19 : decode prog_2_method_9_code 19 = .ok (.if_icmp .ne 9, 3) := by decide +kernel
theorem d_Course_tick_22 : decode prog_2_method_9_code 22 = .ok (.aload_n 0, 1) := by decide +kernel
theorem d_Course_tick_23 : decode prog_2_method_9_code 23 = .ok (.iload_n 1, 1) := by decide +kernel
theorem d_Course_tick_24 : decode prog_2_method_9_code 24 = .ok (.invokevirtual 164, 3) := by decide +kernel
theorem d_Course_tick_27 : decode prog_2_method_9_code 27 = .ok (.ireturn, 1) := by decide +kernel
theorem d_Course_tick_28 : decode prog_2_method_9_code 28 = .ok (.aload_n 0, 1) := by decide +kernel
theorem d_Course_tick_29 : decode prog_2_method_9_code 29 = .ok (.iload_n 2, 1) := by decide +kernel
theorem d_Course_tick_30 : decode prog_2_method_9_code 30 = .ok (.invokevirtual 141, 3) := by decide +kernel
theorem d_Course_tick_33 : decode prog_2_method_9_code 33 = .ok (.istore_n 3, 1) := by decide +kernel
theorem d_Course_tick_34 : decode prog_2_method_9_code 34 = .ok (.iload_n 3, 1) := by decide +kernel
theorem d_Course_tick_35 : decode prog_2_method_9_code 35 = .ok (.iconst (-1), 1) := by decide +kernel
theorem d_Course_tick_36 : decode prog_2_method_9_code 36 = .ok (.if_icmp .eq 27, 3) := by decide +kernel
theorem d_Course_tick_39 : decode prog_2_method_9_code 39 = .ok (.aload_n 0, 1) := by decide +kernel
theorem d_Course_tick_40 : decode prog_2_method_9_code 40 = .ok (.getfield 51, 3) := by decide +kernel
theorem d_Course_tick_43 : decode prog_2_method_9_code 43 = .ok (.iload_n 2, 1) := by decide +kernel
theorem d_Course_tick_44 : decode prog_2_method_9_code 44 = .ok (.aaload, 1) := by decide +kernel
theorem d_Course_tick_45 : decode prog_2_method_9_code 45 = .ok (.iload_n 3, 1) := by decide +kernel
theorem d_Course_tick_46 : decode prog_2_method_9_code 46 = .ok (.dup2, 1) := by decide +kernel
theorem d_Course_tick_47 : decode prog_2_method_9_code 47 = .ok (.iaload, 1) := by decide +kernel
theorem d_Course_tick_48 : decode prog_2_method_9_code 48 = .ok (.iconst 1, 1) := by decide +kernel
theorem d_Course_tick_49 : decode prog_2_method_9_code 49 = .ok (.iadd, 1) := by decide +kernel
theorem d_Course_tick_50 : decode prog_2_method_9_code 50 = .ok (.iastore, 1) := by decide +kernel
theorem d_Course_tick_51 : decode prog_2_method_9_code 51 = .ok (.aload_n 0, 1) := by decide +kernel
theorem d_Course_tick_52 : decode prog_2_method_9_code 52 = .ok (.dup, 1) := by decide +kernel
theorem d_Course_tick_53 : decode prog_2_method_9_code 53 = .ok (.getfield 91, 3) := by decide +kernel
theorem d_Course_tick_56 : decode prog_2_method_9_code 56 = .ok (.iconst 1, 1) := by decide +kernel
theorem d_Course_tick_57 : decode prog_2_method_9_code 57 = .ok (.iadd, 1) := by decide +kernel
theorem d_Course_tick_58 : decode prog_2_method_9_code 58 = .ok (.putfield 91, 3) := by decide +kernel
theorem d_Course_tick_61 : decode prog_2_method_9_code 61 = .ok (.iconst 0, 1) := by decide +kernel
theorem d_Course_tick_62 : decode prog_2_method_9_code 62 = .ok (.ireturn, 1) := by decide +kernel
theorem d_Course_tick_63 : decode prog_2_method_9_code 63 = .ok (.aload_n 0, 1) := by decide +kernel
theorem d_Course_tick_64 : decode prog_2_method_9_code 64 = .ok (.getfield 9, 3) := by decide +kernel
theorem d_Course_tick_67 : decode prog_2_method_9_code 67 = .ok (.getfield 67, 3) := by decide +kernel
theorem d_Course_tick_70 : decode prog_2_method_9_code 70 = .ok (.iload_n 1, 1) := by decide +kernel
theorem d_Course_tick_71 : decode prog_2_method_9_code 71 = .ok (.iload_n 2, 1) := by decide +kernel
theorem d_Course_tick_72 : decode prog_2_method_9_code 72 = .ok (.aload_n 0, 1) := by decide +kernel
theorem d_Course_tick_73 : decode prog_2_method_9_code 73 = .ok (.getfield 37, 3) := by decide +kernel
theorem d_Course_tick_76 : decode prog_2_method_9_code 76 = .ok (.iload_n 2, 1) := by decide +kernel
theorem d_Course_tick_77 : decode prog_2_method_9_code 77 = .ok (.iaload, 1) := by decide +kernel
theorem d_Course_tick_78 : decode prog_2_method_9_code 78 = .ok (.invokevirtual 167, 3) := by decide +kernel
theorem d_Course_tick_81 : decode prog_2_method_9_code 81 = .ok (.ifCond .eq 12, 3) := by decide +kernel
theorem d_Course_tick_84 : decode prog_2_method_9_code 84 = .ok (.aload_n 0, 1) := by decide +kernel
theorem d_Course_tick_85 : decode prog_2_method_9_code 85 = .ok (.iload_n 1, 1) := by decide +kernel
theorem d_Course_tick_86 : decode prog_2_method_9_code 86 = .ok (.iload_n 2, 1) := by decide +kernel
theorem d_Course_tick_87 : decode prog_2_method_9_code 87 = .ok (.invokevirtual 171, 3) := by decide +kernel
theorem d_Course_tick_90 : decode prog_2_method_9_code 90 = .ok (.goto 9, 3) := by decide +kernel
theorem d_Course_tick_93 : decode prog_2_method_9_code 93 = .ok (.aload_n 0, 1) := by decide +kernel
theorem d_Course_tick_94 : decode prog_2_method_9_code 94 = .ok (.iload_n 1, 1) := by decide +kernel
theorem d_Course_tick_95 : decode prog_2_method_9_code 95 = .ok (.iload_n 2, 1) := by decide +kernel
theorem d_Course_tick_96 : decode prog_2_method_9_code 96 = .ok (.invokevirtual 175, 3) := by decide +kernel
theorem d_Course_tick_99 : decode prog_2_method_9_code 99 = .ok (.iconst 1, 1) := by decide +kernel
theorem d_Course_tick_100 : decode prog_2_method_9_code 100 = .ok (.ireturn, 1) := by decide +kernel
theorem d_Course_go_0 : decode prog_2_method_3_code 0 = .ok (.aload_n 0, 1) := by decide +kernel
theorem d_Course_go_1 : decode prog_2_method_3_code 1 = .ok (.iload_n 1, 1) := by decide +kernel
theorem d_Course_go_2 : decode prog_2_method_3_code 2 = .ok (.invokevirtual 97, 3) := by decide +kernel
theorem d_Course_go_5 : decode prog_2_method_3_code 5 = .ok (.lload_n 2, 1) := by decide +kernel
theorem d_Course_go_6 : decode prog_2_method_3_code 6 = .ok (.lstore 4, 2) := by decide +kernel
theorem d_Course_go_8 : decode prog_2_method_3_code 8 = .ok (.aload_n 0, 1) := by decide +kernel
theorem d_Course_go_9 : decode prog_2_method_3_code 9 = .ok (.invokevirtual 100, 3) := by decide +kernel
theorem d_Course_go_12 : decode prog_2_method_3_code 12 = .ok (.istore 6, 2) := by decide +kernel
theorem d_Course_go_14 : decode prog_2_method_3_code 14 = .ok (.iload 6, 2) := by decide +kernel
theorem d_Course_go_16 : decode prog_2_method_3_code 16 = .ok (.iconst 2, 1) := by decide +kernel
theorem d_Course_go_17 : decode prog_2_method_3_code 17 = .ok (.if_icmp .ne 60, 3) := by decide +kernel
theorem d_Course_go_20 : decode prog_2_method_3_code 20 = .ok (.aload_n 0, 1) := by decide +kernel
theorem d_Course_go_21 : decode prog_2_method_3_code 21 = .ok (.getfield 85, 3) := by decide +kernel
theorem d_Course_go_24 : decode prog_2_method_3_code 24 = .ok (.sipush 20000, 3) := by decide +kernel
theorem d_Course_go_27 : decode prog_2_method_3_code 27 = .ok (.if_icmp .ge 50, 3) := by decide +kernel
theorem d_Course_go_30 : decode prog_2_method_3_code 30 = .ok (.lload 4, 2) := by decide +kernel
theorem d_Course_go_32 : decode prog_2_method_3_code 32 = .ok (.ldc2_w 104, 3) := by decide +kernel
theorem d_Course_go_35 : decode prog_2_method_3_code 35 = .ok (.lmul, 1) := by decide +kernel
theorem d_Course_go_36 : decode prog_2_method_3_code 36 = .ok (.ldc2_w 106, 3) := by decide +kernel
theorem d_Course_go_39 : decode prog_2_method_3_code 39 = .ok (.ladd, 1) := by decide +kernel
theorem d_Course_go_40 : decode prog_2_method_3_code 40 = .ok (.lstore 4, 2) := by decide +kernel
theorem d_Course_go_42 : decode prog_2_method_3_code 42 = .ok (.aload_n 0, 1) := by decide +kernel
theorem d_Course_go_43 : decode prog_2_method_3_code 43 = .ok (.dup, 1) := by decide +kernel
theorem d_Course_go_44 : decode prog_2_method_3_code 44 = .ok (.getfield 85, 3) := by decide +kernel
theorem d_Course_go_47 : decode prog_2_method_3_code 47 = .ok (.iconst 1, 1) := by decide +kernel
theorem d_Course_go_48 : decode prog_2_method_3_code 48 = .ok (.iadd, 1) := by decide +kernel
theorem d_Course_go_49 : decode prog_2_method_3_code 49 = .ok (.putfield 85, 3) := by decide +kernel
theorem d_Course_go_52 : decode prog_2_method_3_code 52 = .ok (.aload_n 0, 1) := by decide +kernel
theorem d_Course_go_53 : decode prog_2_method_3_code 53 = .ok (.aload_n 0, 1) := by decide +kernel
theorem d_Course_go_54 : decode prog_2_method_3_code 54 = .ok (.getfield 33, 3) := by decide +kernel
theorem d_Course_go_57 : decode prog_2_method_3_code 57 = .ok (.lload 4, 2) := by decide +kernel
theorem d_Course_go_59 : decode prog_2_method_3_code 59 = .ok (.invokevirtual 108, 3) := by decide +kernel
theorem d_Course_go_62 : decode prog_2_method_3_code 62 = .ok (.invokevirtual 112, 3) := by decide +kernel
theorem d_Course_go_65 : decode prog_2_method_3_code 65 = .ok (.ifCond .eq (-51), 3) := by decide +kernel
theorem d_Course_go_68 : decode prog_2_method_3_code 68 = .ok (.aload_n 0, 1) := by decide +kernel
theorem d_Course_go_69 : decode prog_2_method_3_code 69 = .ok (.invokevirtual 100, 3) := by decide +kernel
theorem d_Course_go_72 : decode prog_2_method_3_code 72 = .ok (.istore 6, 2) := by decide +kernel
theorem d_Course_go_74 : decode prog_2_method_3_code 74 = .ok (.goto (-60), 3) := by decide +kernel
theorem d_Course_go_77 : decode prog_2_method_3_code 77 = .ok (.iload 6, 2) := by decide +kernel
theorem d_Course_go_79 : decode prog_2_method_3_code 79 = .ok (.iconst 2, 1) := by decide +kernel
theorem d_Course_go_80 : decode prog_2_method_3_code 80 = .ok (.if_icmp .ne 8, 3) := by decide +kernel
theorem d_Course_go_83 : decode prog_2_method_3_code 83 = .ok (.bipush (-3), 2) := by decide +kernel
theorem d_Course_go_85 : decode prog_2_method_3_code 85 = .ok (.goto 5, 3) := by decide +kernel
theorem d_Course_go_88 : decode prog_2_method_3_code 88 = .ok (.iload 6, 2) := by decide +kernel
theorem d_Course_go_90 : decode prog_2_method_3_code 90 = .ok (.ireturn, 1) := by decide +kernel
theorem fl_Course_85 : zw_FL R_Course 85 0 11 := ⟨R_Course, T_Course, 15, rfl, by decide, ly_Course, Or.inl (zw_in (List.mem_of_getElem? (i := 224) (by decide +kernel)) (by decide +kernel))⟩
theorem fl_Course_91 : zw_FL R_Course 91 0 13 := ⟨R_Course, T_Course, 15, rfl, by decide, ly_Course, Or.inl (zw_in (List.mem_of_getElem? (i := 228) (by decide +kernel)) (by decide +kernel))⟩
theorem mv_Course_97 : zw_MV R_Course 97 Y_Course_prepare R_Course 1 := ⟨Or.inl (zw_in (List.mem_of_getElem? (i := 481) (by decide +kernel)) (by decide +kernel)), (zw_in (List.mem_of_getElem? (i := 291) (by decide +kernel)) (by decide +kernel)), (zw_in (List.mem_of_getElem? (i := 292) (by decide +kernel)) (by decide +kernel)), (zw_in (List.mem_of_getElem? (i := 293) (by decide +kernel)) (by decide +kernel)), (zw_in (List.mem_of_getElem? (i := 30) (by decide +kernel)) (by decide +kernel)), by decide +kernel, by decide +kernel⟩
theorem mv_Course_100 : zw_MV R_Course 100 Y_Course_endByState R_Course 0 := ⟨Or.inl (zw_in (List.mem_of_getElem? (i := 482) (by decide +kernel)) (by decide +kernel)), (zw_in (List.mem_of_getElem? (i := 484) (by decide +kernel)) (by decide +kernel)), (zw_in (List.mem_of_getElem? (i := 3) (by decide +kernel)) (by decide +kernel)), (zw_in (List.mem_of_getElem? (i := 485) (by decide +kernel)) (by decide +kernel)), (zw_in (List.mem_of_getElem? (i := 30) (by decide +kernel)) (by decide +kernel)), by decide +kernel, by decide +kernel⟩
theorem mv_Course_108 : zw_MV R_Course 108 Y_Crew_whoseTurn R_Crew 1 := ⟨Or.inl (zw_in (List.mem_of_getElem? (i := 512) (by decide +kernel)) (by decide +kernel)), (zw_in (List.mem_of_getElem? (i := 513) (by decide +kernel)) (by decide +kernel)), (zw_in (List.mem_of_getElem? (i := 514) (by decide +kernel)) (by decide +kernel)), (zw_in (List.mem_of_getElem? (i := 515) (by decide +kernel)) (by decide +kernel)), (zw_in (List.mem_of_getElem? (i := 32) (by decide +kernel)) (by decide +kernel)), by decide +kernel, by decide +kernel⟩
theorem mv_Course_112 : zw_MV R_Course 112 Y_Course_tick R_Course 1 := ⟨Or.inl (zw_in (List.mem_of_getElem? (i := 516) (by decide +kernel)) (by decide +kernel)), (zw_in (List.mem_of_getElem? (i := 518) (by decide +kernel)) (by decide +kernel)), (zw_in (List.mem_of_getElem? (i := 7) (by decide +kernel)) (by decide +kernel)), (zw_in (List.mem_of_getElem? (i := 519) (by decide +kernel)) (by decide +kernel)), (zw_in (List.mem_of_getElem? (i := 30) (by decide +kernel)) (by decide +kernel)), by decide +kernel, by decide +kernel⟩
theorem mv_Course_164 : zw_MV R_Course 164 Y_Course_take R_Course 1 := ⟨Or.inl (zw_in (List.mem_of_getElem? (i := 520) (by decide +kernel)) (by decide +kernel)), (zw_in (List.mem_of_getElem? (i := 522) (by decide +kernel)) (by decide +kernel)), (zw_in (List.mem_of_getElem? (i := 8) (by decide +kernel)) (by decide +kernel)), (zw_in (List.mem_of_getElem? (i := 523) (by decide +kernel)) (by decide +kernel)), (zw_in (List.mem_of_getElem? (i := 30) (by decide +kernel)) (by decide +kernel)), by decide +kernel, by decide +kernel⟩
theorem mv_Course_167 : zw_MV R_Course 167 Y_Failings_strike R_Failings 3 := ⟨Or.inl (zw_in (List.mem_of_getElem? (i := 533) (by decide +kernel)) (by decide +kernel)), (zw_in (List.mem_of_getElem? (i := 534) (by decide +kernel)) (by decide +kernel)), (zw_in (List.mem_of_getElem? (i := 535) (by decide +kernel)) (by decide +kernel)), (zw_in (List.mem_of_getElem? (i := 536) (by decide +kernel)) (by decide +kernel)), (zw_in (List.mem_of_getElem? (i := 29) (by decide +kernel)) (by decide +kernel)), by decide +kernel, by decide +kernel⟩
theorem mv_Course_171 : zw_MV R_Course 171 Y_Course_fail R_Course 2 := ⟨Or.inl (zw_in (List.mem_of_getElem? (i := 537) (by decide +kernel)) (by decide +kernel)), (zw_in (List.mem_of_getElem? (i := 539) (by decide +kernel)) (by decide +kernel)), (zw_in (List.mem_of_getElem? (i := 10) (by decide +kernel)) (by decide +kernel)), (zw_in (List.mem_of_getElem? (i := 540) (by decide +kernel)) (by decide +kernel)), (zw_in (List.mem_of_getElem? (i := 30) (by decide +kernel)) (by decide +kernel)), by decide +kernel, by decide +kernel⟩
theorem mv_Course_175 : zw_MV R_Course 175 Y_Course_doStep R_Course 2 := ⟨Or.inl (zw_in (List.mem_of_getElem? (i := 549) (by decide +kernel)) (by decide +kernel)), (zw_in (List.mem_of_getElem? (i := 551) (by decide +kernel)) (by decide +kernel)), (zw_in (List.mem_of_getElem? (i := 11) (by decide +kernel)) (by decide +kernel)), (zw_in (List.mem_of_getElem? (i := 552) (by decide +kernel)) (by decide +kernel)), (zw_in (List.mem_of_getElem? (i := 30) (by decide +kernel)) (by decide +kernel)), by decide +kernel, by decide +kernel⟩
set_option maxHeartbeats 4000000 in
set_option maxRecDepth 100000 in
theorem c_Course_tick {l : Launch} {D : va_G} {cA : Nat → ClassId} {ad : Nat → Nat} {sh : zw_Sh} {n : Nat} (hn : n ≤ 16) (hs : ∀ (k : Nat) (q : zw_Sp), shX n k = some q → sh k = some q) (z : Nat) (mi : zw_I) (ml : zw_L) (wk : Int32) (hI : zi n mi) (hw : wk = -1 ∨ vp_in wk 16) (ht : ¬ wk = -1 → ∀ y : Int32, mi 29 wk.toNatClampNeg = y → ¬ y = -1 → vp_in y n ∧ zi_T n mi y) :
    zc_M l D cA Y_Course_tick 3 0 0 ad sh sh z [.ref (ad 5), .int wk] mi ml (some (.int ((p_tick n wk mi ml).1))) ((p_tick n wk mi ml).2.1) ((p_tick n wk mi ml).2.2) z := by
  refine zc_enter (own := R_Course) (by decide) rfl (Nat.le_of_ble_eq_true rfl) ?_
  intro p e s m below meth c X hr hlocks hnm hB ls hl
  have X : zw_C D cA R_Course prog_2_method_9_code 4 p m c s := X
  have hr : meth.sig.returnType = (some FieldType.boolean) := hr
  have hx := X.1
  have hb := X.2.1
  have hl : lv_has ls 4 [(0, .ref (ad 5)), (1, .int wk)] := hl
  unfold p_tick
  refine lv_iload_n hx hb d_Course_tick_0 rfl (lv_at hl 1 rfl) ?_
  refine lv_iconst (v := (-1)) hx hb d_Course_tick_1 (by decide) ?_
  refine lv_icmp_ne (tgt := 7) hx hb d_Course_tick_2 (by decide) (fun c_2 => ?_) (fun c_2 => ?_)
  · rw [if_neg c_2]
    unfold p_tick2
    have hw : vp_in wk 16 := hw.elim (fun e => absurd e c_2) id
    refine lv_aload_n hx hb d_Course_tick_7 rfl (lv_at hl 0 rfl) ?_
    refine zw_getR X hB fl_Course_33 5 (hs 5 _ rfl) rfl d_Course_tick_8 ?_
    refine zw_getR X hB fl_Course_132 6 (hs 6 _ rfl) rfl d_Course_tick_11 ?_
    refine lv_iload_n hx hb d_Course_tick_14 rfl (lv_at hl 1 rfl) ?_
    refine zw_iald X hB 29 (hs 29 _ rfl) hw d_Course_tick_15 ?_
    refine lv_istore_n (lv' := [(2, .int (mi 29 wk.toNatClampNeg)), (0, .ref (ad 5)), (1, .int wk)]) hx hb d_Course_tick_16 rfl hl (by decide) rfl (fun ls hl => ?_)
    refine lv_iload_n hx hb d_Course_tick_17 rfl (lv_at hl 0 rfl) ?_
    refine lv_iconst (v := (-1)) hx hb d_Course_tick_18 (by decide) ?_
    refine lv_icmp_ne (tgt := 28) hx hb d_Course_tick_19 (by decide) (fun c_19 => ?_) (fun c_19 => ?_)
    · rw [if_neg c_19]
      unfold p_tick3
      obtain ⟨hy, hT⟩ := ht c_2 _ rfl c_19
      refine lv_aload_n hx hb d_Course_tick_28 rfl (lv_at hl 1 rfl) ?_
      refine lv_iload_n hx hb d_Course_tick_29 rfl (lv_at hl 0 rfl) ?_
      refine zw_callVr X hB mv_Course_141 5 (hs 5 _ rfl) rfl (c_Course_shareToWaitFor hn hs z mi ml (mi 29 wk.toNatClampNeg) hI hy) rfl hl.1 ⟨Nat.le_of_ble_eq_true rfl, Nat.le_of_ble_eq_true rfl⟩ rfl (Nat.le_of_ble_eq_true rfl) ⟨Nat.le_of_ble_eq_true rfl, Nat.le_of_ble_eq_true rfl⟩ d_Course_tick_30 (fun H locs hB => ?_)
      refine lv_istore_n (lv' := [(3, .int (p_wait mi (mi 29 wk.toNatClampNeg))), (2, .int (mi 29 wk.toNatClampNeg)), (0, .ref (ad 5)), (1, .int wk)]) hx hb d_Course_tick_33 rfl hl (by decide) rfl (fun ls hl => ?_)
      refine lv_iload_n hx hb d_Course_tick_34 rfl (lv_at hl 0 rfl) ?_
      refine lv_iconst (v := (-1)) hx hb d_Course_tick_35 (by decide) ?_
      refine lv_icmp_eq (tgt := 63) hx hb d_Course_tick_36 (by decide) (fun c_36 => ?_) (fun c_36 => ?_)
      · rw [if_pos c_36]
        unfold p_tick4
        obtain ⟨w8, hw8, ew8⟩ := hI.2.2.1
        refine lv_aload_n hx hb d_Course_tick_63 rfl (lv_at hl 2 rfl) ?_
        refine zw_getR X hB fl_Course_9 5 (hs 5 _ rfl) rfl d_Course_tick_64 ?_
        refine zw_getR X hB fl_Course_67 1 (hs 1 _ rfl) rfl d_Course_tick_67 ?_
        refine lv_iload_n hx hb d_Course_tick_70 rfl (lv_at hl 3 rfl) ?_
        refine lv_iload_n hx hb d_Course_tick_71 rfl (lv_at hl 1 rfl) ?_
        refine lv_aload_n hx hb d_Course_tick_72 rfl (lv_at hl 2 rfl) ?_
        refine zw_getR X hB fl_Course_37 5 (hs 5 _ rfl) rfl d_Course_tick_73 ?_
        refine lv_iload_n hx hb d_Course_tick_76 rfl (lv_at hl 1 rfl) ?_
        refine zw_iald X hB 23 (hs 23 _ rfl) hy d_Course_tick_77 ?_
        refine zw_callVr X hB mv_Course_167 3 (hs 3 _ rfl) rfl (c_Failings_strike hn hs z mi ml wk (mi 29 wk.toNatClampNeg) (mi 23 (mi 29 wk.toNatClampNeg).toNatClampNeg) w8 hw8 ew8) rfl hl.1 ⟨Nat.le_of_ble_eq_true rfl, Nat.le_of_ble_eq_true rfl⟩ rfl (Nat.le_of_ble_eq_true rfl) ⟨Nat.le_of_ble_eq_true rfl, Nat.le_of_ble_eq_true rfl⟩ d_Course_tick_78 (fun H locs hB => ?_)
        obtain ⟨mi_1, emi_1⟩ : ∃ y, y = (p_strike wk (mi 29 wk.toNatClampNeg) (mi 23 (mi 29 wk.toNatClampNeg).toNatClampNeg) mi 9 0).2 := ⟨_, rfl⟩
        rw [← emi_1] at hB
        refine lv_if_eq (tgt := 93) hx hb d_Course_tick_81 (by decide) (fun c_81 => ?_) (fun c_81 => ?_)
        · rw [if_pos c_81]
          have hI2 : zi n mi_1 := (by rw [emi_1]; exact zi_same hn (fun a b h _ => p_strike_off h _ _) hI)
          have hT2 : zi_T n mi_1 (mi 29 wk.toNatClampNeg) := (by rw [emi_1]; exact zi_T_same (fun a b h => p_strike_off h _ _) hT)
          refine lv_aload_n hx hb d_Course_tick_93 rfl (lv_at hl 2 rfl) ?_
          refine lv_iload_n hx hb d_Course_tick_94 rfl (lv_at hl 3 rfl) ?_
          refine lv_iload_n hx hb d_Course_tick_95 rfl (lv_at hl 1 rfl) ?_
          refine zw_callVv X hB mv_Course_175 5 (hs 5 _ rfl) rfl (c_Course_doStep hn hs z mi_1 ml wk (mi 29 wk.toNatClampNeg) hI2 hw hy hT2.1 hT2.2.1 (fun _ => hT2.2.2)) rfl hl.1 ⟨Nat.le_of_ble_eq_true rfl, Nat.le_of_ble_eq_true rfl⟩ rfl (Nat.le_of_ble_eq_true rfl) ⟨Nat.le_of_ble_eq_true rfl, Nat.le_of_ble_eq_true rfl⟩ d_Course_tick_96 (fun H locs hB => ?_)
          obtain ⟨mi_2, emi_2⟩ : ∃ y, y = p_step wk (mi 29 wk.toNatClampNeg) mi_1 := ⟨_, rfl⟩
          rw [← emi_2] at hB
          obtain ⟨ml_3, eml_3⟩ : ∃ y, y = p_stepL mi_1 ml (mi 29 wk.toNatClampNeg) := ⟨_, rfl⟩
          rw [← eml_3] at hB
          refine lv_iconst (v := 1) hx hb d_Course_tick_99 (by decide) ?_
          exact zc_zret X hr hlocks hB (by rfl) (by subst eml_3; subst emi_2; subst emi_1; rfl) (by subst eml_3; subst emi_2; subst emi_1; rfl) (by subst eml_3; subst emi_2; subst emi_1; rfl) d_Course_tick_100
        · rw [if_neg c_81]
          have hI2 : zi n mi_1 := (by rw [emi_1]; exact zi_same hn (fun a b h _ => p_strike_off h _ _) hI)
          refine lv_aload_n hx hb d_Course_tick_84 rfl (lv_at hl 2 rfl) ?_
          refine lv_iload_n hx hb d_Course_tick_85 rfl (lv_at hl 3 rfl) ?_
          refine lv_iload_n hx hb d_Course_tick_86 rfl (lv_at hl 1 rfl) ?_
          refine zw_callVv X hB mv_Course_171 5 (hs 5 _ rfl) rfl (c_Course_fail hn hs z mi_1 ml wk (mi 29 wk.toNatClampNeg) hI2 hy (by rw [p_fail1_line, p_fail1_line]; exact zi_wrap hn hI2.2.2.2.1)) rfl hl.1 ⟨Nat.le_of_ble_eq_true rfl, Nat.le_of_ble_eq_true rfl⟩ rfl (Nat.le_of_ble_eq_true rfl) ⟨Nat.le_of_ble_eq_true rfl, Nat.le_of_ble_eq_true rfl⟩ d_Course_tick_87 (fun H locs hB => ?_)
          obtain ⟨mi_4, emi_4⟩ : ∃ y, y = p_fail n wk (mi 29 wk.toNatClampNeg) mi_1 := ⟨_, rfl⟩
          rw [← emi_4] at hB
          refine lv_goto (tgt := 99) hx hb d_Course_tick_90 (by decide) ?_
          refine lv_iconst (v := 1) hx hb d_Course_tick_99 (by decide) ?_
          exact zc_zret X hr hlocks hB (by rfl) (by subst emi_4; subst emi_1; rfl) (by subst emi_4; subst emi_1; rfl) (by subst emi_4; subst emi_1; rfl) d_Course_tick_100
      · rw [if_neg c_36]
        have haw := (zi_wait hI hy).elim (fun e => absurd e c_36) id
        refine lv_aload_n hx hb d_Course_tick_39 rfl (lv_at hl 2 rfl) ?_
        refine zw_getR X hB fl_Course_51 5 (hs 5 _ rfl) rfl d_Course_tick_40 ?_
        refine lv_iload_n hx hb d_Course_tick_43 rfl (lv_at hl 1 rfl) ?_
        refine zw_aald X hB 26 (Or.inl rfl) (hs 26 _ rfl) hy d_Course_tick_44 ?_
        refine lv_iload_n hx hb d_Course_tick_45 rfl (lv_at hl 0 rfl) ?_
        refine lv_dup2_11 hx hb d_Course_tick_46 rfl rfl ?_
        refine zw_iald X hB (128 + (mi 29 wk.toNatClampNeg).toNatClampNeg) (hs _ _ (shr4 hn (vlt hy))) haw d_Course_tick_47 ?_
        refine lv_iconst (v := 1) hx hb d_Course_tick_48 (by decide) ?_
        refine lv_iadd hx hb d_Course_tick_49 ?_
        refine zw_iast X hB (128 + (mi 29 wk.toNatClampNeg).toNatClampNeg) (hs _ _ (shr4 hn (vlt hy))) haw d_Course_tick_50 (fun H locs hB => ?_)
        obtain ⟨mi_5, emi_5⟩ : ∃ y, y = zw_up mi (128 + (mi 29 wk.toNatClampNeg).toNatClampNeg) (p_wait mi (mi 29 wk.toNatClampNeg)).toNatClampNeg ((mi (128 + (mi 29 wk.toNatClampNeg).toNatClampNeg) (p_wait mi (mi 29 wk.toNatClampNeg)).toNatClampNeg) + 1) := ⟨_, rfl⟩
        rw [← emi_5] at hB
        refine lv_aload_n hx hb d_Course_tick_51 rfl (lv_at hl 2 rfl) ?_
        refine lv_dup hx hb d_Course_tick_52 rfl ?_
        refine zw_getI X hB fl_Course_91 5 (hs 5 _ rfl) rfl d_Course_tick_53 ?_
        refine lv_iconst (v := 1) hx hb d_Course_tick_56 (by decide) ?_
        refine lv_iadd hx hb d_Course_tick_57 ?_
        refine zw_putI X hB fp_Course_91 (fun h => by cases h) 5 (hs 5 _ rfl) rfl d_Course_tick_58 (fun H locs hB => ?_)
        obtain ⟨mi_6, emi_6⟩ : ∃ y, y = zw_up mi_5 5 13 ((mi_5 5 13) + 1) := ⟨_, rfl⟩
        rw [← emi_6] at hB
        refine lv_iconst (v := 0) hx hb d_Course_tick_61 (by decide) ?_
        exact zc_zret X hr hlocks hB (by rfl) (by subst emi_6; subst emi_5; rfl) (by subst emi_6; subst emi_5; rfl) (by subst emi_6; subst emi_5; rfl) d_Course_tick_62
    · rw [if_pos c_19]
      refine lv_aload_n hx hb d_Course_tick_22 rfl (lv_at hl 1 rfl) ?_
      refine lv_iload_n hx hb d_Course_tick_23 rfl (lv_at hl 2 rfl) ?_
      refine zw_callVr X hB mv_Course_164 5 (hs 5 _ rfl) rfl (c_Course_take hn hs z mi ml wk hI hw) rfl hl.1 ⟨Nat.le_of_ble_eq_true rfl, Nat.le_of_ble_eq_true rfl⟩ rfl (Nat.le_of_ble_eq_true rfl) ⟨Nat.le_of_ble_eq_true rfl, Nat.le_of_ble_eq_true rfl⟩ d_Course_tick_24 (fun H locs hB => ?_)
      obtain ⟨mi_7, emi_7⟩ : ∃ y, y = (p_take n wk mi).2 := ⟨_, rfl⟩
      rw [← emi_7] at hB
      exact zc_zret X hr hlocks hB (nz_of p_take_01) (by subst emi_7; rfl) (by subst emi_7; rfl) (by subst emi_7; rfl) d_Course_tick_27
  · rw [if_pos c_2]
    refine lv_iconst (v := 0) hx hb d_Course_tick_5 (by decide) ?_
    exact zc_zret X hr hlocks hB (by rfl) (by rfl) (by rfl) (by rfl) d_Course_tick_6

set_option maxHeartbeats 4000000 in
set_option maxRecDepth 100000 in
theorem c_Course_go {l : Launch} {D : va_G} {cA : Nat → ClassId} {ad : Nat → Nat} {sh : zw_Sh} {n : Nat} (hn : n ≤ 16) (hs : ∀ (k : Nat) (q : zw_Sp), shX n k = some q → sh k = some q) (z : Nat) (mi : zw_I) (ml : zw_L) (wk : Int32) (x : Int64) (w : Nat) (hw : w ≤ 16) (ew : wk = nI w) (hI : zi n mi) (G : zw_I → Prop) (hG : zg_K n G) (hG0 : G (p_prep n wk mi ml).1) (ht0 : (p_prep n wk mi ml).1 5 11 = 0) (htk : ∀ (wk : Int32) (mi : zw_I) (ml : zw_L), (p_tick n wk mi ml).2.1 5 11 = mi 5 11) :
    zc_M l D cA Y_Course_go 4 0 0 ad sh sh z [.ref (ad 5), .int wk, .long x] mi ml (some (.int (p_goE (p_go n wk x mi ml).1))) ((p_go n wk x mi ml).2.1) ((p_go n wk x mi ml).2.2) z := by
  refine zc_enter (own := R_Course) (by decide) rfl (Nat.le_of_ble_eq_true rfl) ?_
  intro p e s m below meth c X hr hlocks hnm hB ls hl
  have X : zw_C D cA R_Course prog_2_method_3_code 7 p m c s := X
  have hr : meth.sig.returnType = (some FieldType.int) := hr
  have hx := X.1
  have hb := X.2.1
  have hl : lv_has ls 7 [(0, .ref (ad 5)), (1, .int wk), (2, .long x)] := hl
  have loop : ∀ (f i : Nat) (y : Int64) (e0 : Int32) (mi : zw_I) (ml : zw_L) (H : Heap) (locs : List Loc) (ls : Array Slot), i + f = 20001 → i ≤ 20000 → mi 5 11 = nI i → G mi → zw_B D cA ad sh (zw_A ad sh z) s.heap mi ml z H locs → lv_has ls 7 [(6, .int e0), (4, .long y), (0, .ref (ad 5))] →
      zc_W l D cA ad sh sh z [.ref (ad 5), .int wk, .long x] 4 0 0 (some (.int (p_goE (p_loop n f y e0 mi ml).1))) ((p_loop n f y e0 mi ml).2.1) ((p_loop n f y e0 mi ml).2.2) z p e s m below meth c H locs 0 0 (F0 m 14 ls []) := by
    intro f
    induction f with
    | zero =>
      intro i y e0 mi ml H locs ls hi h2 et hg hB hl
      omega
    | succ f ih =>
      intro i y e0 mi ml H locs ls hi h2 et hg hB hl
      rw [p_loop]
      refine lv_iload hx hb d_Course_go_14 (lv_at hl 0 rfl) ?_
      refine lv_iconst (v := 2) hx hb d_Course_go_16 (by decide) ?_
      refine lv_icmp_ne (tgt := 77) hx hb d_Course_go_17 (by decide) (fun c_17 => ?_) (fun c_17 => ?_)
      · rw [if_neg c_17]
        dsimp only
        unfold p_goE
        refine lv_iload hx hb d_Course_go_77 (lv_at hl 0 rfl) ?_
        refine lv_iconst (v := 2) hx hb d_Course_go_79 (by decide) ?_
        refine lv_icmp_ne (tgt := 88) hx hb d_Course_go_80 (by decide) (fun c_80 => ?_) (fun c_80 => ?_)
        · rw [if_neg c_80]
          refine lv_iload hx hb d_Course_go_88 (lv_at hl 0 rfl) ?_
          exact zc_iret X hr hlocks hB (by rfl) (by rfl) (by rfl) d_Course_go_90
        · rw [if_pos c_80]
          refine lv_bipush (v := (-3)) hx hb d_Course_go_83 (by decide) ?_
          refine lv_goto (tgt := 90) hx hb d_Course_go_85 (by decide) ?_
          exact zc_iret X hr hlocks hB (by rfl) (by rfl) (by rfl) d_Course_go_90
      · rw [if_pos c_17]
        refine lv_aload_n hx hb d_Course_go_20 rfl (lv_at hl 2 rfl) ?_
        refine zw_getI X hB fl_Course_85 5 (hs 5 _ rfl) rfl d_Course_go_21 ?_
        refine lv_sipush (v := 20000) hx hb d_Course_go_24 (by decide) ?_
        refine lv_icmp_ge (tgt := 77) hx hb d_Course_go_27 (by decide) (fun c_27 => ?_) (fun c_27 => ?_)
        · rw [if_pos c_27]
          dsimp only
          unfold p_goE
          refine lv_iload hx hb d_Course_go_77 (lv_at hl 0 rfl) ?_
          refine lv_iconst (v := 2) hx hb d_Course_go_79 (by decide) ?_
          refine lv_icmp_ne (tgt := 88) hx hb d_Course_go_80 (by decide) (fun c_80 => ?_) (fun c_80 => ?_)
          · rw [if_neg c_80]
            refine lv_iload hx hb d_Course_go_88 (lv_at hl 0 rfl) ?_
            exact zc_iret X hr hlocks hB (by rfl) (by rfl) (by rfl) d_Course_go_90
          · rw [if_pos c_80]
            refine lv_bipush (v := (-3)) hx hb d_Course_go_83 (by decide) ?_
            refine lv_goto (tgt := 90) hx hb d_Course_go_85 (by decide) ?_
            exact zc_iret X hr hlocks hB (by rfl) (by rfl) (by rfl) d_Course_go_90
        · rw [if_neg c_27]
          have hlt : i < 20000 := by
            rcases Nat.lt_or_ge i 20000 with q | q
            · exact q
            · exact absurd (by rw [et]; exact nI_le (a := 20000) q (by omega)) c_27
          obtain ⟨k1, k2, k3, k4⟩ := hG.2.2 mi (p_x y) hg
          have hIt : zi n (p_t1 mi) := zi_t1 hn (hG.1 mi hg)
          have hg2 := hG.2.1 mi ml (p_x y) hg
          have et2 : (p_tick n (p_turn (p_t1 mi) (p_x y)) (p_t1 mi) ml).2.1 5 11 = nI (i + 1) := by rw [htk, ← nI_1 i, ← et]; exact zw_up_self _ _ _ _
          refine lv_lload hx hb d_Course_go_30 (lv_at hl 1 rfl) ?_
          refine lv_ldc2 (v := 6364136223846793005) hx hb X.2.2.2.1 (X.2.2.2.2.ts _ kc_Course_104) d_Course_go_32 ?_
          refine lv_lmul hx hb d_Course_go_35 ?_
          refine lv_ldc2 (v := 1442695040888963407) hx hb X.2.2.2.1 (X.2.2.2.2.ts _ kc_Course_106) d_Course_go_36 ?_
          refine lv_ladd hx hb d_Course_go_39 ?_
          refine lv_lstore (lv' := [(4, .long (p_x y)), (6, .int e0), (0, .ref (ad 5))]) hx hb d_Course_go_40 hl (by decide) rfl (fun ls hl => ?_)
          refine lv_aload_n hx hb d_Course_go_42 rfl (lv_at hl 2 rfl) ?_
          refine lv_dup hx hb d_Course_go_43 rfl ?_
          refine zw_getI X hB fl_Course_85 5 (hs 5 _ rfl) rfl d_Course_go_44 ?_
          refine lv_iconst (v := 1) hx hb d_Course_go_47 (by decide) ?_
          refine lv_iadd hx hb d_Course_go_48 ?_
          refine zw_putI X hB fp_Course_85 (fun h => by cases h) 5 (hs 5 _ rfl) rfl d_Course_go_49 (fun H locs hB => ?_)
          have hB : zw_B D cA ad sh (zw_A ad sh z) s.heap (p_t1 mi) ml z H locs := hB
          refine lv_aload_n hx hb d_Course_go_52 rfl (lv_at hl 2 rfl) ?_
          refine lv_aload_n hx hb d_Course_go_53 rfl (lv_at hl 2 rfl) ?_
          refine zw_getR X hB fl_Course_33 5 (hs 5 _ rfl) rfl d_Course_go_54 ?_
          refine lv_lload hx hb d_Course_go_57 (lv_at hl 0 rfl) ?_
          refine zw_callVr X hB mv_Course_108 6 (hs 6 _ rfl) rfl (c_Crew_whoseTurn hn hs z (p_t1 mi) ml (p_x y) k1 k2) rfl hl.1 ⟨Nat.le_of_ble_eq_true rfl, Nat.le_of_ble_eq_true rfl⟩ rfl (Nat.le_of_ble_eq_true rfl) ⟨Nat.le_of_ble_eq_true rfl, Nat.le_of_ble_eq_true rfl⟩ d_Course_go_59 (fun H locs hB => ?_)
          refine zw_callVr X hB mv_Course_112 5 (hs 5 _ rfl) rfl (c_Course_tick hn hs z (p_t1 mi) ml (p_turn (p_t1 mi) (p_x y)) hIt k3 k4) rfl hl.1 ⟨Nat.le_of_ble_eq_true rfl, Nat.le_of_ble_eq_true rfl⟩ rfl (Nat.le_of_ble_eq_true rfl) ⟨Nat.le_of_ble_eq_true rfl, Nat.le_of_ble_eq_true rfl⟩ d_Course_go_62 (fun H locs hB => ?_)
          refine lv_if_eq (tgt := 14) hx hb d_Course_go_65 (by decide) (fun c_65 => ?_) (fun c_65 => ?_)
          · rw [if_pos c_65]
            exact ih (i + 1) _ _ _ _ H locs ls (by omega) (by omega) et2 hg2 hB (lv_sub hl [1, 0, 2] rfl)
          · rw [if_neg c_65]
            refine lv_aload_n hx hb d_Course_go_68 rfl (lv_at hl 2 rfl) ?_
            refine zw_callVr X hB mv_Course_100 5 (hs 5 _ rfl) rfl (c_Course_endByState hn hs z ((p_tick n (p_turn (p_t1 mi) (p_x y)) (p_t1 mi) ml).2.1) ((p_tick n (p_turn (p_t1 mi) (p_x y)) (p_t1 mi) ml).2.2) (hG.1 _ hg2)) rfl hl.1 ⟨Nat.le_of_ble_eq_true rfl, Nat.le_of_ble_eq_true rfl⟩ rfl (Nat.le_of_ble_eq_true rfl) ⟨Nat.le_of_ble_eq_true rfl, Nat.le_of_ble_eq_true rfl⟩ d_Course_go_69 (fun H locs hB => ?_)
            refine lv_istore (lv' := [(6, .int (p_end ((p_tick n (p_turn (p_t1 mi) (p_x y)) (p_t1 mi) ml).2.1))), (4, .long (p_x y)), (0, .ref (ad 5))]) hx hb d_Course_go_72 hl (by decide) rfl (fun ls hl => ?_)
            refine lv_goto (tgt := 14) hx hb d_Course_go_74 (by decide) ?_
            exact ih (i + 1) _ _ _ _ H locs ls (by omega) (by omega) et2 hg2 hB (lv_sub hl [0, 1, 2] rfl)
  refine lv_aload_n hx hb d_Course_go_0 rfl (lv_at hl 0 rfl) ?_
  refine lv_iload_n hx hb d_Course_go_1 rfl (lv_at hl 1 rfl) ?_
  refine zw_callVv X hB mv_Course_97 5 (hs 5 _ rfl) rfl (c_Course_prepare hn hs z mi ml wk w hw ew hI.1.2.1 hI.2.2.1.choose hI.2.2.1.choose_spec.1 hI.2.2.1.choose_spec.2) rfl hl.1 ⟨Nat.le_of_ble_eq_true rfl, Nat.le_of_ble_eq_true rfl⟩ rfl (Nat.le_of_ble_eq_true rfl) ⟨Nat.le_of_ble_eq_true rfl, Nat.le_of_ble_eq_true rfl⟩ d_Course_go_2 (fun H locs hB => ?_)
  refine lv_lload_n hx hb d_Course_go_5 rfl (lv_at hl 2 rfl) ?_
  refine lv_lstore (lv' := [(4, .long x), (0, .ref (ad 5)), (1, .int wk), (2, .long x)]) hx hb d_Course_go_6 hl (by decide) rfl (fun ls hl => ?_)
  refine lv_aload_n hx hb d_Course_go_8 rfl (lv_at hl 1 rfl) ?_
  refine zw_callVr X hB mv_Course_100 5 (hs 5 _ rfl) rfl (c_Course_endByState hn hs z ((p_prep n wk mi ml).1) ((p_prep n wk mi ml).2) (hG.1 _ hG0)) rfl hl.1 ⟨Nat.le_of_ble_eq_true rfl, Nat.le_of_ble_eq_true rfl⟩ rfl (Nat.le_of_ble_eq_true rfl) ⟨Nat.le_of_ble_eq_true rfl, Nat.le_of_ble_eq_true rfl⟩ d_Course_go_9 (fun H locs hB => ?_)
  refine lv_istore (lv' := [(6, .int (p_end ((p_prep n wk mi ml).1))), (4, .long x), (0, .ref (ad 5)), (1, .int wk), (2, .long x)]) hx hb d_Course_go_12 hl (by decide) rfl (fun ls hl => ?_)
  exact loop 20001 0 _ _ _ _ H locs ls rfl (by omega) ht0 hG0 hB (lv_sub hl [0, 1, 2] rfl)
