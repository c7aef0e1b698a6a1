abbrev Y_Course_prepare : zc_Y := (⟨R_Course, "prepare", "(I)V"⟩, prog_2_method_2_code, 4, none)
theorem d_Course_prepare_0 : decode prog_2_method_2_code 0 = .ok (.iconst 0, 1) := by decide +kernel
theorem d_Course_prepare_1 : decode prog_2_method_2_code 1 = .ok (.istore_n 2, 1) := by decide +kernel
theorem d_Course_prepare_2 : decode prog_2_method_2_code 2 = .ok (.iload_n 2, 1) := by decide +kernel
theorem d_Course_prepare_3 : decode prog_2_method_2_code 3 = .ok (.aload_n 0, 1) := by decide +kernel
theorem d_Course_prepare_4 : decode prog_2_method_2_code 4 = .ok (.getfield 9, 3) := by decide +kernel
theorem d_Course_prepare_7 : decode prog_2_method_2_code 7 = .ok (.getfield 17, 3) := by decide +kernel
theorem d_Course_prepare_10 : decode prog_2_method_2_code 10 = .ok (.if_icmp .ge 68, 3) := by decide +kernel
theorem d_Course_prepare_13 : decode prog_2_method_2_code 13 = .ok (.aload_n 0, 1) := by decide +kernel
theorem d_Course_prepare_14 : decode prog_2_method_2_code 14 = .ok (.getfield 37, 3) := by decide +kernel
theorem d_Course_prepare_17 : decode prog_2_method_2_code 17 = .ok (.iload_n 2, 1) := by decide +kernel
theorem d_Course_prepare_18 : decode prog_2_method_2_code 18 = .ok (.iconst 0, 1) := by decide +kernel
theorem d_Course_prepare_19 : decode prog_2_method_2_code 19 = .ok (.iastore, 1) := by decide +kernel
theorem d_Course_prepare_20 : decode prog_2_method_2_code 20 = .ok (.aload_n 0, 1) := by decide +kernel
theorem d_Course_prepare_21 : decode prog_2_method_2_code 21 = .ok (.getfield 43, 3) := by decide +kernel
theorem d_Course_prepare_24 : decode prog_2_method_2_code 24 = .ok (.iload_n 2, 1) := by decide +kernel
theorem d_Course_prepare_25 : decode prog_2_method_2_code 25 = .ok (.aaload, 1) := by decide +kernel
theorem d_Course_prepare_26 : decode prog_2_method_2_code 26 = .ok (.iconst 0, 1) := by decide +kernel
theorem d_Course_prepare_27 : decode prog_2_method_2_code 27 = .ok (.aload_n 0, 1) := by decide +kernel
theorem d_Course_prepare_28 : decode prog_2_method_2_code 28 = .ok (.getfield 9, 3) := by decide +kernel
theorem d_Course_prepare_31 : decode prog_2_method_2_code 31 = .ok (.getfield 57, 3) := by decide +kernel
theorem d_Course_prepare_34 : decode prog_2_method_2_code 34 = .ok (.iload_n 2, 1) := by decide +kernel
theorem d_Course_prepare_35 : decode prog_2_method_2_code 35 = .ok (.laload, 1) := by decide +kernel
theorem d_Course_prepare_36 : decode prog_2_method_2_code 36 = .ok (.lastore, 1) := by decide +kernel
theorem d_Course_prepare_37 : decode prog_2_method_2_code 37 = .ok (.aload_n 0, 1) := by decide +kernel
theorem d_Course_prepare_38 : decode prog_2_method_2_code 38 = .ok (.getfield 46, 3) := by decide +kernel
theorem d_Course_prepare_41 : decode prog_2_method_2_code 41 = .ok (.iload_n 2, 1) := by decide +kernel
theorem d_Course_prepare_42 : decode prog_2_method_2_code 42 = .ok (.iconst 0, 1) := by decide +kernel
theorem d_Course_prepare_43 : decode prog_2_method_2_code 43 = .ok (.iastore, 1) := by decide +kernel
theorem d_Course_prepare_44 : decode prog_2_method_2_code 44 = .ok (.iconst 0, 1) := by decide +kernel
theorem d_Course_prepare_45 : decode prog_2_method_2_code 45 = .ok (.istore_n 3, 1) := by decide +kernel
theorem d_Course_prepare_46 : decode prog_2_method_2_code 46 = .ok (.iload_n 3, 1) := by decide +kernel
theorem d_Course_prepare_47 : decode prog_2_method_2_code 47 = .ok (.aload_n 0, 1) := by decide +kernel
theorem d_Course_prepare_48 : decode prog_2_method_2_code 48 = .ok (.getfield 9, 3) := by decide +kernel
theorem d_Course_prepare_51 : decode prog_2_method_2_code 51 = .ok (.getfield 17, 3) := by decide +kernel
theorem d_Course_prepare_54 : decode prog_2_method_2_code 54 = .ok (.if_icmp .ge 18, 3) := by decide +kernel
theorem d_Course_prepare_57 : decode prog_2_method_2_code 57 = .ok (.aload_n 0, 1) := by decide +kernel
theorem d_Course_prepare_58 : decode prog_2_method_2_code 58 = .ok (.getfield 51, 3) := by decide +kernel
theorem d_Course_prepare_61 : decode prog_2_method_2_code 61 = .ok (.iload_n 2, 1) := by decide +kernel
theorem d_Course_prepare_62 : decode prog_2_method_2_code 62 = .ok (.aaload, 1) := by decide +kernel
theorem d_Course_prepare_63 : decode prog_2_method_2_code 63 = .ok (.iload_n 3, 1) := by decide +kernel
theorem d_Course_prepare_64 : decode prog_2_method_2_code 64 = .ok (.iconst 0, 1) := by decide +kernel
theorem d_Course_prepare_65 : decode prog_2_method_2_code 65 = .ok (.iastore, 1) := by decide +kernel
theorem d_Course_prepare_66 : decode prog_2_method_2_code 66 = .ok (.iinc 3 1, 3) := by decide +kernel
theorem d_Course_prepare_69 : decode prog_2_method_2_code 69 = .ok (.goto (-23), 3) := by decide +kernel
theorem d_Course_prepare_72 : decode prog_2_method_2_code 72 = .ok (.iinc 2 1, 3) := by decide +kernel
theorem d_Course_prepare_75 : decode prog_2_method_2_code 75 = .ok (.goto (-73), 3) := by decide +kernel
theorem d_Course_prepare_78 : decode prog_2_method_2_code 78 = .ok (.aload_n 0, 1) := by decide +kernel
theorem d_Course_prepare_79 : decode prog_2_method_2_code 79 = .ok (.getfield 26, 3) := by decide +kernel
theorem d_Course_prepare_82 : decode prog_2_method_2_code 82 = .ok (.invokevirtual 61, 3) := by decide +kernel
theorem d_Course_prepare_85 : decode prog_2_method_2_code 85 = .ok (.aload_n 0, 1) := by decide +kernel
theorem d_Course_prepare_86 : decode prog_2_method_2_code 86 = .ok (.getfield 33, 3) := by decide +kernel
theorem d_Course_prepare_89 : decode prog_2_method_2_code 89 = .ok (.iload_n 1, 1) := by decide +kernel
theorem d_Course_prepare_90 : decode prog_2_method_2_code 90 = .ok (.invokevirtual 64, 3) := by decide +kernel
theorem d_Course_prepare_93 : decode prog_2_method_2_code 93 = .ok (.aload_n 0, 1) := by decide +kernel
theorem d_Course_prepare_94 : decode prog_2_method_2_code 94 = .ok (.getfield 9, 3) := by decide +kernel
theorem d_Course_prepare_97 : decode prog_2_method_2_code 97 = .ok (.getfield 67, 3) := by decide +kernel
theorem d_Course_prepare_100 : decode prog_2_method_2_code 100 = .ok (.invokevirtual 71, 3) := by decide +kernel
theorem d_Course_prepare_103 : decode prog_2_method_2_code 103 = .ok (.aload_n 0, 1) := by decide +kernel
theorem d_Course_prepare_104 : decode prog_2_method_2_code 104 = .ok (.iconst 0, 1) := by decide +kernel
theorem d_Course_prepare_105 : decode prog_2_method_2_code 105 = .ok (.putfield 76, 3) := by decide +kernel
theorem d_Course_prepare_108 : decode prog_2_method_2_code 108 = .ok (.aload_n 0, 1) := by decide +kernel
theorem d_Course_prepare_109 : decode prog_2_method_2_code 109 = .ok (.iconst 0, 1) := by decide +kernel
theorem d_Course_prepare_110 : decode prog_2_method_2_code 110 = .ok (.putfield 79, 3) := by decide +kernel
theorem d_Course_prepare_113 : decode prog_2_method_2_code 113 = .ok (.aload_n 0, 1) := by decide +kernel
theorem d_Course_prepare_114 : decode prog_2_method_2_code 114 = .ok (.iconst 0, 1) := by decide +kernel
theorem d_Course_prepare_115 : decode prog_2_method_2_code 115 = .ok (.putfield 82, 3) := by decide +kernel
theorem d_Course_prepare_118 : decode prog_2_method_2_code 118 = .ok (.aload_n 0, 1) := by decide +kernel
theorem d_Course_prepare_119 : decode prog_2_method_2_code 119 = .ok (.iconst 0, 1) := by decide +kernel
theorem d_Course_prepare_120 : decode prog_2_method_2_code 120 = .ok (.putfield 85, 3) := by decide +kernel
theorem d_Course_prepare_123 : decode prog_2_method_2_code 123 = .ok (.aload_n 0, 1) := by decide +kernel
theorem d_Course_prepare_124 : decode prog_2_method_2_code 124 = .ok (.iconst 0, 1) := by decide +kernel
theorem d_Course_prepare_125 : decode prog_2_method_2_code 125 = .ok (.putfield 88, 3) := by decide +kernel
theorem d_Course_prepare_128 : decode prog_2_method_2_code 128 = .ok (.aload_n 0, 1) := by decide +kernel
theorem d_Course_prepare_129 : decode prog_2_method_2_code 129 = .ok (.iconst 0, 1) := by decide +kernel
theorem d_Course_prepare_130 : decode prog_2_method_2_code 130 = .ok (.putfield 91, 3) := by decide +kernel
theorem d_Course_prepare_133 : decode prog_2_method_2_code 133 = .ok (.aload_n 0, 1) := by decide +kernel
theorem d_Course_prepare_134 : decode prog_2_method_2_code 134 = .ok (.iconst 0, 1) := by decide +kernel
theorem d_Course_prepare_135 : decode prog_2_method_2_code 135 = .ok (.putfield 94, 3) := by decide +kernel
theorem d_Course_prepare_138 : decode prog_2_method_2_code 138 = .ok (.return_, 1) := by decide +kernel
theorem fl_Course_51 : zw_FL R_Course 51 0 6 := ⟨R_Course, T_Course, 15, rfl, by decide, ly_Course, Or.inl (zw_in (List.mem_of_getElem? (i := 215) (by decide +kernel)) (by decide +kernel))⟩
theorem fl_Course_57 : zw_FL R_Course 57 5 4 := ⟨R_Plan, T_Plan, 8, rfl, by decide, ly_Plan, Or.inr ⟨"TileShares", (zw_in (List.mem_of_getElem? (i := 133) (by decide +kernel)) (by decide +kernel))⟩⟩
theorem fl_Course_67 : zw_FL R_Course 67 5 6 := ⟨R_Plan, T_Plan, 8, rfl, by decide, ly_Plan, Or.inr ⟨"TileShares", (zw_in (List.mem_of_getElem? (i := 139) (by decide +kernel)) (by decide +kernel))⟩⟩
theorem fp_Course_85 : zw_FP R_Course 85 0 11 (.int) false := ⟨R_Course, T_Course, 15, ty_Course, rfl, by decide, ly_Course, ty_Course_ok, rfl, nm_Course, rfl, Or.inl ⟨(zw_in (List.mem_of_getElem? (i := 224) (by decide +kernel)) (by decide +kernel)), fun h => by cases h⟩⟩
theorem fp_Course_91 : zw_FP R_Course 91 0 13 (.int) false := ⟨R_Course, T_Course, 15, ty_Course, rfl, by decide, ly_Course, ty_Course_ok, rfl, nm_Course, rfl, Or.inl ⟨(zw_in (List.mem_of_getElem? (i := 228) (by decide +kernel)) (by decide +kernel)), fun h => by cases h⟩⟩
theorem mv_Course_61 : zw_MV R_Course 61 Y_Line_fillByNumber R_Line 0 := ⟨Or.inl (zw_in (List.mem_of_getElem? (i := 294) (by decide +kernel)) (by decide +kernel)), (zw_in (List.mem_of_getElem? (i := 295) (by decide +kernel)) (by decide +kernel)), (zw_in (List.mem_of_getElem? (i := 296) (by decide +kernel)) (by decide +kernel)), (zw_in (List.mem_of_getElem? (i := 297) (by decide +kernel)) (by decide +kernel)), (zw_in (List.mem_of_getElem? (i := 31) (by decide +kernel)) (by decide +kernel)), by decide +kernel, by decide +kernel⟩
theorem mv_Course_64 : zw_MV R_Course 64 Y_Crew_gather R_Crew 1 := ⟨Or.inl (zw_in (List.mem_of_getElem? (i := 298) (by decide +kernel)) (by decide +kernel)), (zw_in (List.mem_of_getElem? (i := 299) (by decide +kernel)) (by decide +kernel)), (zw_in (List.mem_of_getElem? (i := 300) (by decide +kernel)) (by decide +kernel)), (zw_in (List.mem_of_getElem? (i := 301) (by decide +kernel)) (by decide +kernel)), (zw_in (List.mem_of_getElem? (i := 32) (by decide +kernel)) (by decide +kernel)), by decide +kernel, by decide +kernel⟩
theorem mv_Course_71 : zw_MV R_Course 71 Y_Failings_renew R_Failings 0 := ⟨Or.inl (zw_in (List.mem_of_getElem? (i := 302) (by decide +kernel)) (by decide +kernel)), (zw_in (List.mem_of_getElem? (i := 303) (by decide +kernel)) (by decide +kernel)), (zw_in (List.mem_of_getElem? (i := 304) (by decide +kernel)) (by decide +kernel)), (zw_in (List.mem_of_getElem? (i := 305) (by decide +kernel)) (by decide +kernel)), (zw_in (List.mem_of_getElem? (i := 29) (by decide +kernel)) (by decide +kernel)), by decide +kernel, by decide +kernel⟩
set_option maxHeartbeats 4000000 in
set_option maxRecDepth 100000 in
theorem c_Course_prepare {l : Launch} {D : va_G} {cA : Nat → ClassId} {ad : Nat → Nat} {sh : zw_Sh} {n : Nat} (hn : n ≤ 16) (hs : ∀ (k : Nat) (q : zw_Sp), shX n k = some q → sh k = some q) (z : Nat) (mi : zw_I) (ml : zw_L) (wk : Int32) (w : Nat) (hw : w ≤ 16) (ew : wk = nI w) (e0 : mi 1 0 = nI n) (w8 : Nat) (hw8 : w8 ≤ 8) (ew8 : mi 3 5 = nI w8) :
    zc_M l D cA Y_Course_prepare 1 0 0 ad sh sh z [.ref (ad 5), .int wk] mi ml none ((p_prep n wk mi ml).1) ((p_prep n wk mi ml).2) z := by
  refine zc_enter (own := R_Course) (by decide) rfl (Nat.le_of_ble_eq_true rfl) ?_
  intro p e s m below meth c X hr hlocks hnm hB ls hl
  have X : zw_C D cA R_Course prog_2_method_2_code 4 p m c s := X
  have hr : meth.sig.returnType = none := hr
  have hx := X.1
  have hb := X.2.1
  have hl : lv_has ls 4 [(0, .ref (ad 5)), (1, .int wk)] := hl
  have loop : ∀ (f i : Nat) (mi : zw_I) (ml : zw_L) (H : Heap) (locs : List Loc) (ls : Array Slot), i + f = n + 1 → i ≤ n → mi 1 0 = nI n → mi 3 5 = nI w8 → zw_B D cA ad sh (zw_A ad sh z) s.heap mi ml z H locs → lv_has ls 4 [(2, .int (nI i)), (0, .ref (ad 5)), (1, .int wk)] →
      zc_W l D cA ad sh sh z [.ref (ad 5), .int wk] 1 0 0 none (p_prepZ n wk (p_prepA n f (nI i) mi ml).1) ((p_prepA n f (nI i) mi ml).2) z p e s m below meth c H locs 0 0 (F0 m 2 ls []) := by
    intro f
    induction f with
    | zero =>
      intro i mi ml H locs ls hi h2 e0 ew8 hB hl
      omega
    | succ f ih =>
      intro i mi ml H locs ls hi h2 e0 ew8 hB hl
      rw [p_prepA]
      refine lv_iload_n hx hb d_Course_prepare_2 rfl (lv_at hl 0 rfl) ?_
      refine lv_aload_n hx hb d_Course_prepare_3 rfl (lv_at hl 1 rfl) ?_
      refine zw_getR X hB fl_Course_9 5 (hs 5 _ rfl) rfl d_Course_prepare_4 ?_
      refine zw_getI X hB fl_Course_17 1 (hs 1 _ rfl) rfl d_Course_prepare_7 ?_
      refine lv_icmp_ge (tgt := 78) hx hb d_Course_prepare_10 (by decide) (fun c_10 => ?_) (fun c_10 => ?_)
      · rw [e0] at c_10
        rw [if_pos c_10]
        refine lv_aload_n hx hb d_Course_prepare_78 rfl (lv_at hl 1 rfl) ?_
        refine zw_getR X hB fl_Course_26 5 (hs 5 _ rfl) rfl d_Course_prepare_79 ?_
        refine zw_callVv X hB mv_Course_61 4 (hs 4 _ rfl) rfl (c_Line_fillByNumber hn hs z mi ml) rfl hl.1 ⟨Nat.le_of_ble_eq_true rfl, Nat.le_of_ble_eq_true rfl⟩ rfl (Nat.le_of_ble_eq_true rfl) ⟨Nat.le_of_ble_eq_true rfl, Nat.le_of_ble_eq_true rfl⟩ d_Course_prepare_82 (fun H locs hB => ?_)
        obtain ⟨mi_1, emi_1⟩ : ∃ y, y = p_fill n (n + 1) 0 mi := ⟨_, rfl⟩
        rw [← emi_1] at hB
        refine lv_aload_n hx hb d_Course_prepare_85 rfl (lv_at hl 1 rfl) ?_
        refine zw_getR X hB fl_Course_33 5 (hs 5 _ rfl) rfl d_Course_prepare_86 ?_
        refine lv_iload_n hx hb d_Course_prepare_89 rfl (lv_at hl 2 rfl) ?_
        refine zw_callVv X hB mv_Course_64 6 (hs 6 _ rfl) rfl (c_Crew_gather hn hs z mi_1 ml wk w hw ew) rfl hl.1 ⟨Nat.le_of_ble_eq_true rfl, Nat.le_of_ble_eq_true rfl⟩ rfl (Nat.le_of_ble_eq_true rfl) ⟨Nat.le_of_ble_eq_true rfl, Nat.le_of_ble_eq_true rfl⟩ d_Course_prepare_90 (fun H locs hB => ?_)
        obtain ⟨mi_2, emi_2⟩ : ∃ y, y = p_gather wk 17 0 mi_1 := ⟨_, rfl⟩
        rw [← emi_2] at hB
        refine lv_aload_n hx hb d_Course_prepare_93 rfl (lv_at hl 1 rfl) ?_
        refine zw_getR X hB fl_Course_9 5 (hs 5 _ rfl) rfl d_Course_prepare_94 ?_
        refine zw_getR X hB fl_Course_67 1 (hs 1 _ rfl) rfl d_Course_prepare_97 ?_
        refine zw_callVv X hB mv_Course_71 3 (hs 3 _ rfl) rfl (c_Failings_renew hn hs z mi_2 ml w8 hw8 (by subst_vars; rw [p_gather_off (by decide) (by decide) (by decide), p_fill_off (by decide) (by decide)]; exact ew8)) rfl hl.1 ⟨Nat.le_of_ble_eq_true rfl, Nat.le_of_ble_eq_true rfl⟩ rfl (Nat.le_of_ble_eq_true rfl) ⟨Nat.le_of_ble_eq_true rfl, Nat.le_of_ble_eq_true rfl⟩ d_Course_prepare_100 (fun H locs hB => ?_)
        obtain ⟨mi_3, emi_3⟩ : ∃ y, y = p_renew 9 0 mi_2 := ⟨_, rfl⟩
        rw [← emi_3] at hB
        refine lv_aload_n hx hb d_Course_prepare_103 rfl (lv_at hl 1 rfl) ?_
        refine lv_iconst (v := 0) hx hb d_Course_prepare_104 (by decide) ?_
        refine zw_putI X hB fp_Course_76 (fun h => by cases h) 5 (hs 5 _ rfl) rfl d_Course_prepare_105 (fun H locs hB => ?_)
        obtain ⟨mi_4, emi_4⟩ : ∃ y, y = zw_up mi_3 5 8 0 := ⟨_, rfl⟩
        rw [← emi_4] at hB
        refine lv_aload_n hx hb d_Course_prepare_108 rfl (lv_at hl 1 rfl) ?_
        refine lv_iconst (v := 0) hx hb d_Course_prepare_109 (by decide) ?_
        refine zw_putI X hB fp_Course_79 (fun h => by cases h) 5 (hs 5 _ rfl) rfl d_Course_prepare_110 (fun H locs hB => ?_)
        obtain ⟨mi_5, emi_5⟩ : ∃ y, y = zw_up mi_4 5 9 0 := ⟨_, rfl⟩
        rw [← emi_5] at hB
        refine lv_aload_n hx hb d_Course_prepare_113 rfl (lv_at hl 1 rfl) ?_
        refine lv_iconst (v := 0) hx hb d_Course_prepare_114 (by decide) ?_
        refine zw_putI X hB fp_Course_82 (fun h => by cases h) 5 (hs 5 _ rfl) rfl d_Course_prepare_115 (fun H locs hB => ?_)
        obtain ⟨mi_6, emi_6⟩ : ∃ y, y = zw_up mi_5 5 10 0 := ⟨_, rfl⟩
        rw [← emi_6] at hB
        refine lv_aload_n hx hb d_Course_prepare_118 rfl (lv_at hl 1 rfl) ?_
        refine lv_iconst (v := 0) hx hb d_Course_prepare_119 (by decide) ?_
        refine zw_putI X hB fp_Course_85 (fun h => by cases h) 5 (hs 5 _ rfl) rfl d_Course_prepare_120 (fun H locs hB => ?_)
        obtain ⟨mi_7, emi_7⟩ : ∃ y, y = zw_up mi_6 5 11 0 := ⟨_, rfl⟩
        rw [← emi_7] at hB
        refine lv_aload_n hx hb d_Course_prepare_123 rfl (lv_at hl 1 rfl) ?_
        refine lv_iconst (v := 0) hx hb d_Course_prepare_124 (by decide) ?_
        refine zw_putI X hB fp_Course_88 (fun h => by cases h) 5 (hs 5 _ rfl) rfl d_Course_prepare_125 (fun H locs hB => ?_)
        obtain ⟨mi_8, emi_8⟩ : ∃ y, y = zw_up mi_7 5 12 0 := ⟨_, rfl⟩
        rw [← emi_8] at hB
        refine lv_aload_n hx hb d_Course_prepare_128 rfl (lv_at hl 1 rfl) ?_
        refine lv_iconst (v := 0) hx hb d_Course_prepare_129 (by decide) ?_
        refine zw_putI X hB fp_Course_91 (fun h => by cases h) 5 (hs 5 _ rfl) rfl d_Course_prepare_130 (fun H locs hB => ?_)
        obtain ⟨mi_9, emi_9⟩ : ∃ y, y = zw_up mi_8 5 13 0 := ⟨_, rfl⟩
        rw [← emi_9] at hB
        refine lv_aload_n hx hb d_Course_prepare_133 rfl (lv_at hl 1 rfl) ?_
        refine lv_iconst (v := 0) hx hb d_Course_prepare_134 (by decide) ?_
        refine zw_putI X hB fp_Course_94 (fun h => by cases h) 5 (hs 5 _ rfl) rfl d_Course_prepare_135 (fun H locs hB => ?_)
        obtain ⟨mi_10, emi_10⟩ : ∃ y, y = zw_up mi_9 5 14 0 := ⟨_, rfl⟩
        rw [← emi_10] at hB
        exact zc_vret X hr hlocks hB (by subst emi_10; subst emi_9; subst emi_8; subst emi_7; subst emi_6; subst emi_5; subst emi_4; subst emi_3; subst emi_2; subst emi_1; rfl) (by subst emi_10; subst emi_9; subst emi_8; subst emi_7; subst emi_6; subst emi_5; subst emi_4; subst emi_3; subst emi_2; subst emi_1; rfl) (by subst emi_10; subst emi_9; subst emi_8; subst emi_7; subst emi_6; subst emi_5; subst emi_4; subst emi_3; subst emi_2; subst emi_1; rfl) d_Course_prepare_138
      · rw [e0] at c_10
        rw [if_neg c_10]
        have hlt : i < n := zn_lt (by omega) c_10
        have hin : vp_in (nI i) n := vp_in_nI hlt (by omega)
        refine lv_aload_n hx hb d_Course_prepare_13 rfl (lv_at hl 1 rfl) ?_
        refine zw_getR X hB fl_Course_37 5 (hs 5 _ rfl) rfl d_Course_prepare_14 ?_
        refine lv_iload_n hx hb d_Course_prepare_17 rfl (lv_at hl 0 rfl) ?_
        refine lv_iconst (v := 0) hx hb d_Course_prepare_18 (by decide) ?_
        refine zw_iast X hB 23 (hs 23 _ rfl) hin d_Course_prepare_19 (fun H locs hB => ?_)
        obtain ⟨mi_11, emi_11⟩ : ∃ y, y = zw_up mi 23 (nI i).toNatClampNeg 0 := ⟨_, rfl⟩
        rw [← emi_11] at hB
        refine lv_aload_n hx hb d_Course_prepare_20 rfl (lv_at hl 1 rfl) ?_
        refine zw_getR X hB fl_Course_43 5 (hs 5 _ rfl) rfl d_Course_prepare_21 ?_
        refine lv_iload_n hx hb d_Course_prepare_24 rfl (lv_at hl 0 rfl) ?_
        refine zw_aald X hB 24 (Or.inr rfl) (hs 24 _ rfl) hin d_Course_prepare_25 ?_
        refine lv_iconst (v := 0) hx hb d_Course_prepare_26 (by decide) ?_
        refine lv_aload_n hx hb d_Course_prepare_27 rfl (lv_at hl 1 rfl) ?_
        refine zw_getR X hB fl_Course_9 5 (hs 5 _ rfl) rfl d_Course_prepare_28 ?_
        refine zw_getR X hB fl_Course_57 1 (hs 1 _ rfl) rfl d_Course_prepare_31 ?_
        refine lv_iload_n hx hb d_Course_prepare_34 rfl (lv_at hl 0 rfl) ?_
        refine zw_lald X hB 9 (hs 9 _ rfl) hin d_Course_prepare_35 ?_
        refine zw_last X hB (112 + (nI i).toNatClampNeg) (hs _ _ (shr3 hn (vlt hin))) (vp_in_nI (n := 0) (by decide) (by decide)) d_Course_prepare_36 (fun H locs hB => ?_)
        obtain ⟨ml_12, eml_12⟩ : ∃ y, y = zw_up ml (112 + (nI i).toNatClampNeg) (0 : Int32).toNatClampNeg (ml 9 (nI i).toNatClampNeg) := ⟨_, rfl⟩
        rw [← eml_12] at hB
        refine lv_aload_n hx hb d_Course_prepare_37 rfl (lv_at hl 1 rfl) ?_
        refine zw_getR X hB fl_Course_46 5 (hs 5 _ rfl) rfl d_Course_prepare_38 ?_
        refine lv_iload_n hx hb d_Course_prepare_41 rfl (lv_at hl 0 rfl) ?_
        refine lv_iconst (v := 0) hx hb d_Course_prepare_42 (by decide) ?_
        refine zw_iast X hB 25 (hs 25 _ rfl) hin d_Course_prepare_43 (fun H locs hB => ?_)
        obtain ⟨mi_13, emi_13⟩ : ∃ y, y = zw_up mi_11 25 (nI i).toNatClampNeg 0 := ⟨_, rfl⟩
        rw [← emi_13] at hB
        refine lv_iconst (v := 0) hx hb d_Course_prepare_44 (by decide) ?_
        refine lv_istore_n (lv' := [(3, .int 0), (2, .int (nI i)), (0, .ref (ad 5)), (1, .int wk)]) hx hb d_Course_prepare_45 rfl hl (by decide) rfl (fun ls hl => ?_)
        subst emi_13
        subst eml_12
        subst emi_11
        have loopI : ∀ (g k : Nat) (mi : zw_I) (ml : zw_L) (H : Heap) (locs : List Loc) (ls : Array Slot), k + g = n + 1 → k ≤ n → mi 1 0 = nI n → mi 3 5 = nI w8 → zw_B D cA ad sh (zw_A ad sh z) s.heap mi ml z H locs → lv_has ls 4 [(3, .int (nI k)), (2, .int (nI i)), (0, .ref (ad 5)), (1, .int wk)] →
            zc_W l D cA ad sh sh z [.ref (ad 5), .int wk] 1 0 0 none (p_prepZ n wk (p_prepA n f (nI (i + 1)) (p_prepW n (nI i).toNatClampNeg g (nI k) mi) ml).1) ((p_prepA n f (nI (i + 1)) (p_prepW n (nI i).toNatClampNeg g (nI k) mi) ml).2) z p e s m below meth c H locs 0 0 (F0 m 46 ls []) := by
          intro g
          induction g with
          | zero =>
            intro k mi ml H locs ls hi h2 e0 ew8 hB hl
            omega
          | succ g ihg =>
            intro k mi ml H locs ls hi2 h22 e0 ew8 hB hl
            rw [p_prepW]
            refine lv_iload_n hx hb d_Course_prepare_46 rfl (lv_at hl 0 rfl) ?_
            refine lv_aload_n hx hb d_Course_prepare_47 rfl (lv_at hl 2 rfl) ?_
            refine zw_getR X hB fl_Course_9 5 (hs 5 _ rfl) rfl d_Course_prepare_48 ?_
            refine zw_getI X hB fl_Course_17 1 (hs 1 _ rfl) rfl d_Course_prepare_51 ?_
            refine lv_icmp_ge (tgt := 72) hx hb d_Course_prepare_54 (by decide) (fun c_54 => ?_) (fun c_54 => ?_)
            · rw [e0] at c_54
              rw [if_pos c_54]
              refine lv_iinc (v := nI (i + 1)) (lv' := [(2, .int (nI (i + 1))), (3, .int (nI k)), (0, .ref (ad 5)), (1, .int wk)]) hx hb d_Course_prepare_72 hl (k := 1) rfl (nI_1 i) (by decide) rfl (fun ls hl => ?_)
              refine lv_goto (tgt := 2) hx hb d_Course_prepare_75 (by decide) ?_
              exact ih (i + 1) _ _ H locs ls (by omega) (by omega) e0 ew8 hB (lv_sub hl [0, 2, 3] rfl)
            · rw [e0] at c_54
              rw [if_neg c_54]
              have hltk : k < n := zn_lt (by omega) c_54
              have hink : vp_in (nI k) n := vp_in_nI hltk (by omega)
              refine lv_aload_n hx hb d_Course_prepare_57 rfl (lv_at hl 2 rfl) ?_
              refine zw_getR X hB fl_Course_51 5 (hs 5 _ rfl) rfl d_Course_prepare_58 ?_
              refine lv_iload_n hx hb d_Course_prepare_61 rfl (lv_at hl 1 rfl) ?_
              refine zw_aald X hB 26 (Or.inl rfl) (hs 26 _ rfl) hin d_Course_prepare_62 ?_
              refine lv_iload_n hx hb d_Course_prepare_63 rfl (lv_at hl 0 rfl) ?_
              refine lv_iconst (v := 0) hx hb d_Course_prepare_64 (by decide) ?_
              refine zw_iast X hB (128 + (nI i).toNatClampNeg) (hs _ _ (shr4 hn (vlt hin))) hink d_Course_prepare_65 (fun H locs hB => ?_)
              obtain ⟨mi_1, emi_1⟩ : ∃ y, y = zw_up mi (128 + (nI i).toNatClampNeg) (nI k).toNatClampNeg 0 := ⟨_, rfl⟩
              rw [← emi_1] at hB
              refine lv_iinc (v := nI (k + 1)) (lv' := [(3, .int (nI (k + 1))), (2, .int (nI i)), (0, .ref (ad 5)), (1, .int wk)]) hx hb d_Course_prepare_66 hl (k := 0) rfl (nI_1 k) (by decide) rfl (fun ls hl => ?_)
              refine lv_goto (tgt := 46) hx hb d_Course_prepare_69 (by decide) ?_
              subst emi_1
              rw [nI_1 k]
              exact ihg (k + 1) _ _ H locs ls (by omega) (by omega) (by rw [zw_up_ne1 _ _ _ (by omega)]; exact e0) (by rw [zw_up_ne1 _ _ _ (by omega)]; exact ew8) hB (lv_sub hl [0, 1, 2, 3] rfl)
        rw [nI_1 i]
        exact loopI (n + 1) 0 _ _ _ _ ls (by omega) (by omega) (by simpa [zw_up] using e0) (by simpa [zw_up] using ew8) hB (lv_sub hl [0, 1, 2, 3] rfl)
  refine lv_iconst (v := 0) hx hb d_Course_prepare_0 (by decide) ?_
  refine lv_istore_n (lv' := [(2, .int 0), (0, .ref (ad 5)), (1, .int wk)]) hx hb d_Course_prepare_1 rfl hl (by decide) rfl (fun ls hl => ?_)
  exact loop (n + 1) 0 mi ml _ _ ls (by omega) (by omega) e0 ew8 hB (lv_sub hl [0, 1, 2] rfl)
