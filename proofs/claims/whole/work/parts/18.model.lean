abbrev Y_Model_run : zc_Y := (⟨R_Model, "run", "(IJ)I"⟩, prog_9_method_20_code, 9, (some FieldType.int))
theorem d_Model_run_0 : decode prog_9_method_20_code 0 = .ok (.aload_n 0, 1) := by decide +kernel
theorem d_Model_run_1 : decode prog_9_method_20_code 1 = .ok (.iload_n 1, 1) := by decide +kernel
theorem d_Model_run_2 : decode prog_9_method_20_code 2 = .ok (.iconst 1, 1) := by decide +kernel
theorem d_Model_run_3 : decode prog_9_method_20_code 3 = .ok (.bipush 16, 2) := by decide +kernel
theorem d_Model_run_5 : decode prog_9_method_20_code 5 = .ok (.invokestatic 92, 3) := by decide +kernel
theorem d_Model_run_8 : decode prog_9_method_20_code 8 = .ok (.ifCond .eq 7, 3) := by decide +kernel
theorem d_Model_run_11 : decode prog_9_method_20_code 11 = .ok (.iconst 0, 1) := by decide +kernel
theorem d_Model_run_12 : decode prog_9_method_20_code 12 = .ok (.goto 4, 3) := by decide +kernel
theorem d_Model_run_15 : decode prog_9_method_20_code 15 = .ok (.iconst 1, 1) := by decide +kernel
theorem d_Model_run_16 : decode prog_9_method_20_code 16 = .ok (.putfield 85, 3) := by decide +kernel
theorem d_Model_run_19 : decode prog_9_method_20_code 19 = .ok (.aload_n 0, 1) := by decide +kernel
theorem d_Model_run_20 : decode prog_9_method_20_code 20 = .ok (.getfield 85, 3) := by decide +kernel
theorem d_Model_run_23 : decode prog_9_method_20_code 23 = .ok (.ifCond .le 5, 3) := by decide +kernel
theorem d_Model_run_26 : decode prog_9_method_20_code 26 = .ok (.iconst 0, 1) := by decide +kernel
theorem d_Model_run_27 : decode prog_9_method_20_code 27 = .ok (.ireturn, 1) := by decide +kernel
theorem d_Model_run_28 : decode prog_9_method_20_code 28 = .ok (.aload_n 0, 1) := by decide +kernel
theorem d_Model_run_29 : decode prog_9_method_20_code 29 = .ok (.iload_n 1, 1) := by decide +kernel
theorem d_Model_run_30 : decode prog_9_method_20_code 30 = .ok (.invokevirtual 157, 3) := by decide +kernel
theorem d_Model_run_33 : decode prog_9_method_20_code 33 = .ok (.lload_n 2, 1) := by decide +kernel
theorem d_Model_run_34 : decode prog_9_method_20_code 34 = .ok (.lstore 4, 2) := by decide +kernel
theorem d_Model_run_36 : decode prog_9_method_20_code 36 = .ok (.aload_n 0, 1) := by decide +kernel
theorem d_Model_run_37 : decode prog_9_method_20_code 37 = .ok (.iload_n 1, 1) := by decide +kernel
theorem d_Model_run_38 : decode prog_9_method_20_code 38 = .ok (.invokevirtual 160, 3) := by decide +kernel
theorem d_Model_run_41 : decode prog_9_method_20_code 41 = .ok (.istore 6, 2) := by decide +kernel
theorem d_Model_run_43 : decode prog_9_method_20_code 43 = .ok (.iload 6, 2) := by decide +kernel
theorem d_Model_run_45 : decode prog_9_method_20_code 45 = .ok (.iconst 2, 1) := by decide +kernel
theorem d_Model_run_46 : decode prog_9_method_20_code 46 = .ok (.if_icmp .ne 103, 3) := by decide +kernel
theorem d_Model_run_49 : decode prog_9_method_20_code 49 = .ok (.lload 4, 2) := by decide +kernel
theorem d_Model_run_51 : decode prog_9_method_20_code 51 = .ok (.ldc2_w 111, 3) := by decide +kernel
theorem d_Model_run_54 : decode prog_9_method_20_code 54 = .ok (.lmul, 1) := by decide +kernel
theorem d_Model_run_55 : decode prog_9_method_20_code 55 = .ok (.ldc2_w 163, 3) := by decide +kernel
theorem d_Model_run_58 : decode prog_9_method_20_code 58 = .ok (.ladd, 1) := by decide +kernel
theorem d_Model_run_59 : decode prog_9_method_20_code 59 = .ok (.lstore 4, 2) := by decide +kernel
theorem d_Model_run_61 : decode prog_9_method_20_code 61 = .ok (.lload 4, 2) := by decide +kernel
theorem d_Model_run_63 : decode prog_9_method_20_code 63 = .ok (.bipush 33, 2) := by decide +kernel
theorem d_Model_run_65 : decode prog_9_method_20_code 65 = .ok (.lushr, 1) := by decide +kernel
theorem d_Model_run_66 : decode prog_9_method_20_code 66 = .ok (.aload_n 0, 1) := by decide +kernel
theorem d_Model_run_67 : decode prog_9_method_20_code 67 = .ok (.getfield 141, 3) := by decide +kernel
theorem d_Model_run_70 : decode prog_9_method_20_code 70 = .ok (.i2l, 1) := by decide +kernel
theorem d_Model_run_71 : decode prog_9_method_20_code 71 = .ok (.lrem, 1) := by decide +kernel
theorem d_Model_run_72 : decode prog_9_method_20_code 72 = .ok (.l2i, 1) := by decide +kernel
theorem d_Model_run_73 : decode prog_9_method_20_code 73 = .ok (.istore 7, 2) := by decide +kernel
theorem d_Model_run_75 : decode prog_9_method_20_code 75 = .ok (.iconst 0, 1) := by decide +kernel
theorem d_Model_run_76 : decode prog_9_method_20_code 76 = .ok (.istore 8, 2) := by decide +kernel
theorem d_Model_run_78 : decode prog_9_method_20_code 78 = .ok (.aload_n 0, 1) := by decide +kernel
theorem d_Model_run_79 : decode prog_9_method_20_code 79 = .ok (.getfield 60, 3) := by decide +kernel
theorem d_Model_run_82 : decode prog_9_method_20_code 82 = .ok (.iload 8, 2) := by decide +kernel
theorem d_Model_run_84 : decode prog_9_method_20_code 84 = .ok (.iaload, 1) := by decide +kernel
theorem d_Model_run_85 : decode prog_9_method_20_code 85 = .ok (.bipush (-2), 2) := by decide +kernel
theorem d_Model_run_87 : decode prog_9_method_20_code 87 = .ok (.if_icmp .eq 8, 3) := by decide +kernel
theorem d_Model_run_90 : decode prog_9_method_20_code 90 = .ok (.iload 7, 2) := by decide +kernel
theorem d_Model_run_92 : decode prog_9_method_20_code 92 = .ok (.ifCond .le 31, 3) := by decide +kernel
theorem d_Model_run_95 : decode prog_9_method_20_code 95 = .ok (.iload 7, 2) := by decide +kernel
theorem d_Model_run_97 : decode prog_9_method_20_code 97 = .ok (.aload_n 0, 1) := by decide +kernel
theorem d_Model_run_98 : decode prog_9_method_20_code 98 = .ok (.getfield 60, 3) := by decide +kernel
theorem d_Model_run_101 : decode prog_9_method_20_code 101 = .ok (.iload 8, 2) := by decide +kernel
theorem d_Model_run_103 : decode prog_9_method_20_code 103 = .ok (.iaload, 1) := by decide +kernel
theorem d_Model_run_104 : decode prog_9_method_20_code 104 = .ok (.bipush (-2), 2) := by decide +kernel
theorem d_Model_run_106 : decode prog_9_method_20_code 106 = .ok (.if_icmp .ne 7, 3) := by decide +kernel
theorem d_Model_run_109 : decode prog_9_method_20_code 109 = .ok (.iconst 0, 1) := by decide +kernel
theorem d_Model_run_110 : decode prog_9_method_20_code 110 = .ok (.goto 4, 3) := by decide +kernel
theorem d_Model_run_113 : decode prog_9_method_20_code 113 = .ok (.iconst 1, 1) := by decide +kernel
theorem d_Model_run_114 : decode prog_9_method_20_code 114 = .ok (.isub, 1) := by decide +kernel
theorem d_Model_run_115 : decode prog_9_method_20_code 115 = .ok (.istore 7, 2) := by decide +kernel
theorem d_Model_run_117 : decode prog_9_method_20_code 117 = .ok (.iinc 8 1, 3) := by decide +kernel
theorem d_Model_run_120 : decode prog_9_method_20_code 120 = .ok (.goto (-42), 3) := by decide +kernel
theorem d_Model_run_123 : decode prog_9_method_20_code 123 = .ok (.aload_n 0, 1) := by decide +kernel
theorem d_Model_run_124 : decode prog_9_method_20_code 124 = .ok (.dup, 1) := by decide +kernel
theorem d_Model_run_125 : decode prog_9_method_20_code 125 = .ok (.getfield 154, 3) := by decide +kernel
theorem d_Model_run_128 : decode prog_9_method_20_code 128 = .ok (.iconst 1, 1) := by decide +kernel
theorem d_Model_run_129 : decode prog_9_method_20_code 129 = .ok (.iadd, 1) := by decide +kernel
theorem d_Model_run_130 : decode prog_9_method_20_code 130 = .ok (.putfield 154, 3) := by decide +kernel
theorem d_Model_run_133 : decode prog_9_method_20_code 133 = .ok (.aload_n 0, 1) := by decide +kernel
theorem d_Model_run_134 : decode prog_9_method_20_code 134 = .ok (.iload 8, 2) := by decide +kernel
theorem d_Model_run_136 : decode prog_9_method_20_code 136 = .ok (.invokevirtual 165, 3) := by decide +kernel
theorem d_Model_run_139 : decode prog_9_method_20_code 139 = .ok (.aload_n 0, 1) := by decide +kernel
theorem d_Model_run_140 : decode prog_9_method_20_code 140 = .ok (.iload_n 1, 1) := by decide +kernel
theorem d_Model_run_141 : decode prog_9_method_20_code 141 = .ok (.invokevirtual 160, 3) := by decide +kernel
theorem d_Model_run_144 : decode prog_9_method_20_code 144 = .ok (.istore 6, 2) := by decide +kernel
theorem d_Model_run_146 : decode prog_9_method_20_code 146 = .ok (.goto (-103), 3) := by decide +kernel
theorem d_Model_run_149 : decode prog_9_method_20_code 149 = .ok (.aload_n 0, 1) := by decide +kernel
theorem d_Model_run_150 : decode prog_9_method_20_code 150 = .ok (.aload_n 0, 1) := by decide +kernel
theorem d_Model_run_151 : decode prog_9_method_20_code 151 = .ok (.getfield 141, 3) := by decide +kernel
theorem d_Model_run_154 : decode prog_9_method_20_code 154 = .ok (.putfield 168, 3) := by decide +kernel
theorem d_Model_run_157 : decode prog_9_method_20_code 157 = .ok (.iconst 0, 1) := by decide +kernel
theorem d_Model_run_158 : decode prog_9_method_20_code 158 = .ok (.istore 7, 2) := by decide +kernel
theorem d_Model_run_160 : decode prog_9_method_20_code 160 = .ok (.iload 7, 2) := by decide +kernel
theorem d_Model_run_162 : decode prog_9_method_20_code 162 = .ok (.aload_n 0, 1) := by decide +kernel
theorem d_Model_run_163 : decode prog_9_method_20_code 163 = .ok (.getfield 75, 3) := by decide +kernel
theorem d_Model_run_166 : decode prog_9_method_20_code 166 = .ok (.if_icmp .ge 52, 3) := by decide +kernel
theorem d_Model_run_169 : decode prog_9_method_20_code 169 = .ok (.iload 6, 2) := by decide +kernel
theorem d_Model_run_171 : decode prog_9_method_20_code 171 = .ok (.ifCond .lt 47, 3) := by decide +kernel
theorem d_Model_run_174 : decode prog_9_method_20_code 174 = .ok (.aload_n 0, 1) := by decide +kernel
theorem d_Model_run_175 : decode prog_9_method_20_code 175 = .ok (.getfield 47, 3) := by decide +kernel
theorem d_Model_run_178 : decode prog_9_method_20_code 178 = .ok (.iload 7, 2) := by decide +kernel
theorem d_Model_run_180 : decode prog_9_method_20_code 180 = .ok (.aload_n 0, 1) := by decide +kernel
theorem d_Model_run_181 : decode prog_9_method_20_code 181 = .ok (.iload 7, 2) := by decide +kernel
theorem d_Model_run_183 : decode prog_9_method_20_code 183 = .ok (.invokevirtual 148, 3) := by decide +kernel
theorem d_Model_run_186 : decode prog_9_method_20_code 186 = .ok (.bastore, 1) := by decide +kernel
theorem d_Model_run_187 : decode prog_9_method_20_code 187 = .ok (.aload_n 0, 1) := by decide +kernel
theorem d_Model_run_188 : decode prog_9_method_20_code 188 = .ok (.getfield 51, 3) := by decide +kernel
theorem d_Model_run_191 : decode prog_9_method_20_code 191 = .ok (.iload 7, 2) := by decide +kernel
theorem d_Model_run_193 : decode prog_9_method_20_code 193 = .ok (.aload_n 0, 1) := by decide +kernel
theorem d_Model_run_194 : decode prog_9_method_20_code 194 = .ok (.getfield 54, 3) := by decide +kernel
theorem d_Model_run_197 : decode prog_9_method_20_code 197 = .ok (.bipush 21, 2) := by decide +kernel
theorem d_Model_run_199 : decode prog_9_method_20_code 199 = .ok (.iload 7, 2) := by decide +kernel
theorem d_Model_run_201 : decode prog_9_method_20_code 201 = .ok (.imul, 1) := by decide +kernel
theorem d_Model_run_202 : decode prog_9_method_20_code 202 = .ok (.aload_n 0, 1) := by decide +kernel
theorem d_Model_run_203 : decode prog_9_method_20_code 203 = .ok (.getfield 7, 3) := by decide +kernel
theorem d_Model_run_206 : decode prog_9_method_20_code 206 = .ok (.iload 7, 2) := by decide +kernel
theorem d_Model_run_208 : decode prog_9_method_20_code 208 = .ok (.iaload, 1) := by decide +kernel
theorem d_Model_run_209 : decode prog_9_method_20_code 209 = .ok (.iadd, 1) := by decide +kernel
theorem d_Model_run_210 : decode prog_9_method_20_code 210 = .ok (.laload, 1) := by decide +kernel
theorem d_Model_run_211 : decode prog_9_method_20_code 211 = .ok (.lastore, 1) := by decide +kernel
theorem d_Model_run_212 : decode prog_9_method_20_code 212 = .ok (.iinc 7 1, 3) := by decide +kernel
theorem d_Model_run_215 : decode prog_9_method_20_code 215 = .ok (.goto (-55), 3) := by decide +kernel
theorem d_Model_run_218 : decode prog_9_method_20_code 218 = .ok (.iload 6, 2) := by decide +kernel
theorem d_Model_run_220 : decode prog_9_method_20_code 220 = .ok (.ireturn, 1) := by decide +kernel
theorem mv_Model_157 : zw_MV R_Model 157 Y_Model_begin R_Model 1 := ⟨Or.inl (zw_in (List.mem_of_getElem? (i := 762) (by decide +kernel)) (by decide +kernel)), (zw_in (List.mem_of_getElem? (i := 764) (by decide +kernel)) (by decide +kernel)), (zw_in (List.mem_of_getElem? (i := 14) (by decide +kernel)) (by decide +kernel)), (zw_in (List.mem_of_getElem? (i := 765) (by decide +kernel)) (by decide +kernel)), (zw_in (List.mem_of_getElem? (i := 33) (by decide +kernel)) (by decide +kernel)), by decide +kernel, by decide +kernel⟩
theorem mv_Model_160 : zw_MV R_Model 160 Y_Model_ending R_Model 1 := ⟨Or.inl (zw_in (List.mem_of_getElem? (i := 766) (by decide +kernel)) (by decide +kernel)), (zw_in (List.mem_of_getElem? (i := 768) (by decide +kernel)) (by decide +kernel)), (zw_in (List.mem_of_getElem? (i := 15) (by decide +kernel)) (by decide +kernel)), (zw_in (List.mem_of_getElem? (i := 769) (by decide +kernel)) (by decide +kernel)), (zw_in (List.mem_of_getElem? (i := 33) (by decide +kernel)) (by decide +kernel)), by decide +kernel, by decide +kernel⟩
theorem mv_Model_165 : zw_MV R_Model 165 Y_Model_tick R_Model 1 := ⟨Or.inl (zw_in (List.mem_of_getElem? (i := 788) (by decide +kernel)) (by decide +kernel)), (zw_in (List.mem_of_getElem? (i := 790) (by decide +kernel)) (by decide +kernel)), (zw_in (List.mem_of_getElem? (i := 20) (by decide +kernel)) (by decide +kernel)), (zw_in (List.mem_of_getElem? (i := 791) (by decide +kernel)) (by decide +kernel)), (zw_in (List.mem_of_getElem? (i := 33) (by decide +kernel)) (by decide +kernel)), by decide +kernel, by decide +kernel⟩
set_option maxHeartbeats 4000000 in
set_option maxRecDepth 100000 in
theorem c_Model_run {l : Launch} {D : va_G} {cA : Nat → ClassId} {ad : Nat → Nat} {sh : zw_Sh} (hm : ∀ (k : Nat) (q : zw_Sp), shM k = some q → sh k = some q) (z : Nat) (mi : zw_I) (ml : zw_L) (wk : Int32) (x : Int64) {n : Nat} (hn : n ≤ 16) (en : mi 32 1 = nI n) (w8 : Nat) (hw8 : w8 ≤ 8) (ew8 : mi 32 15 = nI w8) (w : Nat) (hin1 : ¬ p_within wk 1 16 = 0 → w ≤ 16 ∧ wk = nI w) (G : zw_I → Prop) (hG : zq_K n w G) (hG0 : ¬ p_within wk 1 16 = 0 → G (q_begin wk (zw_up mi 32 0 0) ml).1 ∧ (q_begin wk (zw_up mi 32 0 0) ml).1 32 30 = 0) :
    zc_M l D cA Y_Model_run 3 0 0 ad sh sh z [.ref (ad 32), .int wk, .long x] mi ml (some (.int ((q_run wk x mi ml).1))) ((q_run wk x mi ml).2.1) ((q_run wk x mi ml).2.2) z := by
  refine zc_enter (own := R_Model) (by decide) rfl (Nat.le_of_ble_eq_true rfl) ?_
  intro p e s m below meth c X hr hlocks hnm hB ls hl
  have X : zw_C D cA R_Model prog_9_method_20_code 9 p m c s := X
  have hr : meth.sig.returnType = (some FieldType.int) := hr
  have hx := X.1
  have hb := X.2.1
  have hl : lv_has ls 9 [(0, .ref (ad 32)), (1, .int wk), (2, .long x)] := hl
  have vals : ∀ (f i : Nat) (e0 : Int32) (mi : zw_I) (ml : zw_L) (H : Heap) (locs : List Loc) (ls : Array Slot), i + f = 17 → i ≤ n → mi 32 1 = nI n → (∀ k : Nat, k < n → vp_in (mi 33 k) 21) → zw_B D cA ad sh (zw_A ad sh z) s.heap mi ml z H locs → lv_has ls 9 [(7, .int (nI i)), (6, .int e0), (0, .ref (ad 32))] →
      zc_W l D cA ad sh sh z [.ref (ad 32), .int wk, .long x] 3 0 0 (some (.int e0)) ((q_vals e0 f (nI i) mi ml).1) ((q_vals e0 f (nI i) mi ml).2) z p e s m below meth c H locs 0 0 (F0 m 160 ls []) := by
    intro f
    induction f with
    | zero =>
      intro i e0 mi ml H locs ls hi h2 en hst hB hl
      omega
    | succ f ih =>
      intro i e0 mi ml H locs ls hi h2 en hst hB hl
      rw [q_vals]
      refine lv_iload hx hb d_Model_run_160 (lv_at hl 0 rfl) ?_
      refine lv_aload_n hx hb d_Model_run_162 rfl (lv_at hl 2 rfl) ?_
      refine zw_getI X hB fl_Model_75 32 (hm 32 _ rfl) rfl d_Model_run_163 ?_
      refine lv_icmp_ge (tgt := 218) hx hb d_Model_run_166 (by decide) (fun c_166 => ?_) (fun c_166 => ?_)
      · rw [if_pos c_166]
        refine lv_iload hx hb d_Model_run_218 (lv_at hl 1 rfl) ?_
        exact zc_iret X hr hlocks hB (by rfl) (by rfl) (by rfl) d_Model_run_220
      · rw [if_neg c_166]
        have hlt : i < n := zn_lt (by omega) (by rw [← en]; exact c_166)
        have hin : vp_in (nI i) 16 := vp_in_nI (by omega) (by decide)
        have hst := hst
        refine lv_iload hx hb d_Model_run_169 (lv_at hl 1 rfl) ?_
        refine lv_if_lt (tgt := 218) hx hb d_Model_run_171 (by decide) (fun c_171 => ?_) (fun c_171 => ?_)
        · rw [if_pos c_171]
          refine lv_iload hx hb d_Model_run_218 (lv_at hl 1 rfl) ?_
          exact zc_iret X hr hlocks hB (by rfl) (by rfl) (by rfl) d_Model_run_220
        · rw [if_neg c_171]
          refine lv_aload_n hx hb d_Model_run_174 rfl (lv_at hl 2 rfl) ?_
          refine zw_getR X hB fl_Model_47 32 (hm 32 _ rfl) rfl d_Model_run_175 ?_
          refine lv_iload hx hb d_Model_run_178 (lv_at hl 0 rfl) ?_
          refine lv_aload_n hx hb d_Model_run_180 rfl (lv_at hl 2 rfl) ?_
          refine lv_iload hx hb d_Model_run_181 (lv_at hl 0 rfl) ?_
          refine zw_callVr X hB mv_Model_148 32 (hm 32 _ rfl) rfl (c_Model_isFinished hm z mi ml (nI i) hin) rfl hl.1 ⟨Nat.le_of_ble_eq_true rfl, Nat.le_of_ble_eq_true rfl⟩ rfl (Nat.le_of_ble_eq_true rfl) ⟨Nat.le_of_ble_eq_true rfl, Nat.le_of_ble_eq_true rfl⟩ d_Model_run_183 (fun H locs hB => ?_)
          refine zw_zast X hB 45 (hm 45 _ rfl) (nz_of q_isFin_01) hin d_Model_run_186 (fun H locs hB => ?_)
          refine lv_aload_n hx hb d_Model_run_187 rfl (lv_at hl 2 rfl) ?_
          refine zw_getR X hB fl_Model_51 32 (hm 32 _ rfl) rfl d_Model_run_188 ?_
          refine lv_iload hx hb d_Model_run_191 (lv_at hl 0 rfl) ?_
          refine lv_aload_n hx hb d_Model_run_193 rfl (lv_at hl 2 rfl) ?_
          refine zw_getR X hB fl_Model_54 32 (hm 32 _ rfl) rfl d_Model_run_194 ?_
          refine lv_bipush (v := 21) hx hb d_Model_run_197 (by decide) ?_
          refine lv_iload hx hb d_Model_run_199 (lv_at hl 0 rfl) ?_
          refine lv_imul hx hb d_Model_run_201 ?_
          refine lv_aload_n hx hb d_Model_run_202 rfl (lv_at hl 2 rfl) ?_
          refine zw_getR X hB fl_Model_7 32 (hm 32 _ rfl) rfl d_Model_run_203 ?_
          refine lv_iload hx hb d_Model_run_206 (lv_at hl 0 rfl) ?_
          refine zw_iald X hB 33 (hm 33 _ rfl) hin d_Model_run_208 ?_
          refine lv_iadd hx hb d_Model_run_209 ?_
          refine zw_lald X hB 47 (hm 47 _ rfl) (zm_21 hin (by rw [zw_up_ne1 _ _ _ (by decide)]; exact hst _ (by rw [nI_clamp (by omega)]; exact hlt))) d_Model_run_210 ?_
          refine zw_last X hB 46 (hm 46 _ rfl) hin d_Model_run_211 (fun H locs hB => ?_)
          refine lv_iinc (v := nI (i + 1)) (lv' := [(7, .int (nI (i + 1))), (6, .int e0), (0, .ref (ad 32))]) hx hb d_Model_run_212 hl (k := 0) rfl (nI_1 i) (by decide) rfl (fun ls hl => ?_)
          refine lv_goto (tgt := 160) hx hb d_Model_run_215 (by decide) ?_
          rw [nI_1 i]
          exact ih (i + 1) _ _ _ H locs ls (by omega) (by omega) (by rw [zw_up_ne1 _ _ _ (by decide)]; exact en) (fun k hk => by rw [zw_up_ne1 _ _ _ (by decide)]; exact hst k hk) hB (lv_sub hl [0, 1, 2] rfl)
  have main : ∀ (f i : Nat) (y : Int64) (e0 : Int32) (mi : zw_I) (ml : zw_L) (H : Heap) (locs : List Loc) (ls : Array Slot), i + f = 20001 → i ≤ 20000 → mi 32 30 = nI i → G mi → e0 = q_end mi wk → w ≤ 16 → wk = nI w → zw_B D cA ad sh (zw_A ad sh z) s.heap mi ml z H locs → lv_has ls 9 [(6, .int e0), (4, .long y), (0, .ref (ad 32)), (1, .int wk)] →
      zc_W l D cA ad sh sh z [.ref (ad 32), .int wk, .long x] 3 0 0 (some (.int (q_runZ (q_loop wk f y e0 mi ml)).1)) ((q_runZ (q_loop wk f y e0 mi ml)).2.1) ((q_runZ (q_loop wk f y e0 mi ml)).2.2) z p e s m below meth c H locs 0 0 (F0 m 43 ls []) := by
    intro f
    induction f with
    | zero =>
      intro i y e0 mi ml H locs ls hi h2 et hg he hw ew hB hl
      omega
    | succ f ih =>
      intro i y e0 mi ml H locs ls hi h2 et hg he hw ew hB hl
      rw [q_loop]
      refine lv_iload hx hb d_Model_run_43 (lv_at hl 0 rfl) ?_
      refine lv_iconst (v := 2) hx hb d_Model_run_45 (by decide) ?_
      refine lv_icmp_ne (tgt := 149) hx hb d_Model_run_46 (by decide) (fun c_46 => ?_) (fun c_46 => ?_)
      · rw [if_neg c_46]
        unfold q_runZ
        dsimp only
        refine lv_aload_n hx hb d_Model_run_149 rfl (lv_at hl 2 rfl) ?_
        refine lv_aload_n hx hb d_Model_run_150 rfl (lv_at hl 2 rfl) ?_
        refine zw_getI X hB fl_Model_141 32 (hm 32 _ rfl) rfl d_Model_run_151 ?_
        refine zw_putI X hB fp_Model_168 (fun h => by cases h) 32 (hm 32 _ rfl) rfl d_Model_run_154 (fun H locs hB => ?_)
        have hB : zw_B D cA ad sh (zw_A ad sh z) s.heap (q_live mi) ml z H locs := hB
        refine lv_iconst (v := 0) hx hb d_Model_run_157 (by decide) ?_
        refine lv_istore (lv' := [(7, .int 0), (6, .int e0), (4, .long y), (0, .ref (ad 32)), (1, .int wk)]) hx hb d_Model_run_158 hl (by decide) rfl (fun ls hl => ?_)
        have hgi := hG.1 mi hg
        exact vals 17 0 _ _ _ _ _ ls rfl (by omega) (by rw [q_live, zw_up_ne2 _ _ _ (by decide)]; exact hgi.2.1) (fun k hk => by rw [q_live, zw_up_ne1 _ _ _ (by decide)]; exact hgi.2.2 k hk) hB (lv_sub hl [0, 1, 3] rfl)
      · rw [if_pos c_46]
        have he2 : q_end mi (nI w) = 2 := by rw [← ew, ← he]; exact c_46
        have htk := q_end_ticks he2
        have hlt : i < 20000 := by
          rcases Nat.lt_or_ge i 20000 with q | q
          · exact q
          · exact absurd (by rw [et, show i = 20000 by omega]; rfl) htk
        obtain ⟨k1, k2, k3, k4, k5⟩ := hG.2 mi ml (p_x y) hg he2
        refine lv_lload hx hb d_Model_run_49 (lv_at hl 1 rfl) ?_
        refine lv_ldc2 (v := 6364136223846793005) hx hb X.2.2.2.1 (X.2.2.2.2.ts _ kc_Model_111) d_Model_run_51 ?_
        refine lv_lmul hx hb d_Model_run_54 ?_
        refine lv_ldc2 (v := 1442695040888963407) hx hb X.2.2.2.1 (X.2.2.2.2.ts _ kc_Model_163) d_Model_run_55 ?_
        refine lv_ladd hx hb d_Model_run_58 ?_
        refine lv_lstore (lv' := [(4, .long (p_x y)), (6, .int e0), (0, .ref (ad 32)), (1, .int wk)]) hx hb d_Model_run_59 hl (by decide) rfl (fun ls hl => ?_)
        refine lv_lload hx hb d_Model_run_61 (lv_at hl 0 rfl) ?_
        refine lv_bipush (v := 33) hx hb d_Model_run_63 (by decide) ?_
        refine lv_lushr (v := ((p_x y).toUInt64 >>> ((33 : Int32).toInt64.toUInt64 &&& Int64.toUInt64 63)).toInt64) hx hb d_Model_run_65 rfl ?_
        refine lv_aload_n hx hb d_Model_run_66 rfl (lv_at hl 2 rfl) ?_
        refine zw_getI X hB fl_Model_141 32 (hm 32 _ rfl) rfl d_Model_run_67 ?_
        refine lv_i2l (v := (mi 32 25).toInt64) hx hb d_Model_run_70 rfl ?_
        refine lv_lrem hx hb d_Model_run_71 k1 ?_
        refine lv_l2i (v := ((((p_x y).toUInt64 >>> ((33 : Int32).toInt64.toUInt64 &&& Int64.toUInt64 63)).toInt64) - (((p_x y).toUInt64 >>> ((33 : Int32).toInt64.toUInt64 &&& Int64.toUInt64 63)).toInt64) / ((mi 32 25).toInt64) * ((mi 32 25).toInt64)).toInt32) hx hb d_Model_run_72 rfl ?_
        refine lv_istore (lv' := [(7, .int (q_place mi (p_x y))), (4, .long (p_x y)), (6, .int e0), (0, .ref (ad 32)), (1, .int wk)]) hx hb d_Model_run_73 hl (by decide) rfl (fun ls hl => ?_)
        refine lv_iconst (v := 0) hx hb d_Model_run_75 (by decide) ?_
        refine lv_istore (lv' := [(8, .int 0), (7, .int (q_place mi (p_x y))), (4, .long (p_x y)), (6, .int e0), (0, .ref (ad 32)), (1, .int wk)]) hx hb d_Model_run_76 hl (by decide) rfl (fun ls hl => ?_)
        have find : ∀ (g j : Nat) (pl : Int32) (H : Heap) (locs : List Loc) (ls : Array Slot), zq_F mi g pl j → q_find mi g pl (nI j) = q_who mi (p_x y) → zw_B D cA ad sh (zw_A ad sh z) s.heap mi ml z H locs → lv_has ls 9 [(8, .int (nI j)), (7, .int pl), (6, .int e0), (4, .long (p_x y)), (0, .ref (ad 32)), (1, .int wk)] →
            zc_W l D cA ad sh sh z [.ref (ad 32), .int wk, .long x] 3 0 0 (some (.int (q_runZ (q_loop wk f (p_x y) (q_end (q_tick (q_find mi g pl (nI j)) (q_t1 mi) ml).1 wk) (q_tick (q_find mi g pl (nI j)) (q_t1 mi) ml).1 (q_tick (q_find mi g pl (nI j)) (q_t1 mi) ml).2)).1)) ((q_runZ (q_loop wk f (p_x y) (q_end (q_tick (q_find mi g pl (nI j)) (q_t1 mi) ml).1 wk) (q_tick (q_find mi g pl (nI j)) (q_t1 mi) ml).1 (q_tick (q_find mi g pl (nI j)) (q_t1 mi) ml).2)).2.1) ((q_runZ (q_loop wk f (p_x y) (q_end (q_tick (q_find mi g pl (nI j)) (q_t1 mi) ml).1 wk) (q_tick (q_find mi g pl (nI j)) (q_t1 mi) ml).1 (q_tick (q_find mi g pl (nI j)) (q_t1 mi) ml).2)).2.2) z p e s m below meth c H locs 0 0 (F0 m 78 ls []) := by
          intro g
          induction g with
          | zero =>
            intro j pl H locs ls hF hq hB hl
            exact hF.elim
          | succ g ihg =>
            intro j pl H locs ls hF hq hB hl
            have hj : j < 16 := hF.1
            have ej : (nI j).toNatClampNeg = j := nI_clamp (by omega)
            rw [q_find] at hq ⊢
            refine lv_aload_n hx hb d_Model_run_78 rfl (lv_at hl 4 rfl) ?_
            refine zw_getR X hB fl_Model_60 32 (hm 32 _ rfl) rfl d_Model_run_79 ?_
            refine lv_iload hx hb d_Model_run_82 (lv_at hl 0 rfl) ?_
            refine zw_iald X hB 49 (hm 49 _ rfl) (vp_in_nI hj (by decide)) d_Model_run_84 ?_
            refine lv_bipush (v := (-2)) hx hb d_Model_run_85 (by decide) ?_
            refine lv_icmp_eq (tgt := 95) hx hb d_Model_run_87 (by decide) (fun c_87 => ?_) (fun c_87 => ?_)
            · rw [if_pos c_87]
              rw [if_pos c_87] at hq
              refine lv_iload hx hb d_Model_run_95 (lv_at hl 1 rfl) ?_
              refine lv_aload_n hx hb d_Model_run_97 rfl (lv_at hl 4 rfl) ?_
              refine zw_getR X hB fl_Model_60 32 (hm 32 _ rfl) rfl d_Model_run_98 ?_
              refine lv_iload hx hb d_Model_run_101 (lv_at hl 0 rfl) ?_
              refine zw_iald X hB 49 (hm 49 _ rfl) (vp_in_nI hj (by decide)) d_Model_run_103 ?_
              refine lv_bipush (v := (-2)) hx hb d_Model_run_104 (by decide) ?_
              refine lv_icmp_ne (tgt := 113) hx hb d_Model_run_106 (by decide) (fun c_106 => ?_) (fun c_106 => ?_)
              · exact absurd c_87 c_106
              · refine lv_iconst (v := 0) hx hb d_Model_run_109 (by decide) ?_
                refine lv_goto (tgt := 114) hx hb d_Model_run_110 (by decide) ?_
                refine lv_isub hx hb d_Model_run_114 ?_
                refine lv_istore (lv' := [(7, .int (pl - 0)), (8, .int (nI j)), (6, .int e0), (4, .long (p_x y)), (0, .ref (ad 32)), (1, .int wk)]) hx hb d_Model_run_115 hl (by decide) rfl (fun ls hl => ?_)
                refine lv_iinc (v := nI (j + 1)) (lv' := [(8, .int (nI (j + 1))), (7, .int (pl - 0)), (6, .int e0), (4, .long (p_x y)), (0, .ref (ad 32)), (1, .int wk)]) hx hb d_Model_run_117 hl (k := 1) rfl (nI_1 j) (by decide) rfl (fun ls hl => ?_)
                refine lv_goto (tgt := 78) hx hb d_Model_run_120 (by decide) ?_
                rw [nI_1 j] at hq ⊢
                exact ihg (j + 1) _ H locs ls (hF.2.1 (by rw [← ej]; exact c_87)) hq hB (lv_sub hl [0, 1, 2, 3, 4, 5] rfl)
            · rw [if_neg c_87]
              rw [if_neg c_87] at hq
              refine lv_iload hx hb d_Model_run_90 (lv_at hl 1 rfl) ?_
              refine lv_if_le (tgt := 123) hx hb d_Model_run_92 (by decide) (fun c_92 => ?_) (fun c_92 => ?_)
              · rw [if_pos c_92]
                rw [if_pos c_92] at hq
                rw [← hq] at k3 k4 k5
                refine lv_aload_n hx hb d_Model_run_123 rfl (lv_at hl 4 rfl) ?_
                refine lv_dup hx hb d_Model_run_124 rfl ?_
                refine zw_getI X hB fl_Model_154 32 (hm 32 _ rfl) rfl d_Model_run_125 ?_
                refine lv_iconst (v := 1) hx hb d_Model_run_128 (by decide) ?_
                refine lv_iadd hx hb d_Model_run_129 ?_
                refine zw_putI X hB fp_Model_154 (fun h => by cases h) 32 (hm 32 _ rfl) rfl d_Model_run_130 (fun H locs hB => ?_)
                have hB : zw_B D cA ad sh (zw_A ad sh z) s.heap (q_t1 mi) ml z H locs := hB
                refine lv_aload_n hx hb d_Model_run_133 rfl (lv_at hl 4 rfl) ?_
                refine lv_iload hx hb d_Model_run_134 (lv_at hl 0 rfl) ?_
                refine zw_callVv X hB mv_Model_165 32 (hm 32 _ rfl) rfl (c_Model_tick hm z (q_t1 mi) ml (nI j) (k3 : zq_T (q_t1 mi) _).1 k3.2.1 k3.2.2.1 k3.2.2.2.1 k3.2.2.2.2) rfl hl.1 ⟨Nat.le_of_ble_eq_true rfl, Nat.le_of_ble_eq_true rfl⟩ rfl (Nat.le_of_ble_eq_true rfl) ⟨Nat.le_of_ble_eq_true rfl, Nat.le_of_ble_eq_true rfl⟩ d_Model_run_136 (fun H locs hB => ?_)
                refine lv_aload_n hx hb d_Model_run_139 rfl (lv_at hl 4 rfl) ?_
                refine lv_iload_n hx hb d_Model_run_140 rfl (lv_at hl 5 rfl) ?_
                refine zw_callVr X hB mv_Model_160 32 (hm 32 _ rfl) rfl (c_Model_ending hm z ((q_tick (nI j) (q_t1 mi) ml).1) ((q_tick (nI j) (q_t1 mi) ml).2) wk w hw ew (hG.1 _ k4).1) rfl hl.1 ⟨Nat.le_of_ble_eq_true rfl, Nat.le_of_ble_eq_true rfl⟩ rfl (Nat.le_of_ble_eq_true rfl) ⟨Nat.le_of_ble_eq_true rfl, Nat.le_of_ble_eq_true rfl⟩ d_Model_run_141 (fun H locs hB => ?_)
                refine lv_istore (lv' := [(6, .int (q_end ((q_tick (nI j) (q_t1 mi) ml).1) wk)), (8, .int (nI j)), (7, .int pl), (4, .long (p_x y)), (0, .ref (ad 32)), (1, .int wk)]) hx hb d_Model_run_144 hl (by decide) rfl (fun ls hl => ?_)
                refine lv_goto (tgt := 43) hx hb d_Model_run_146 (by decide) ?_
                exact ih (i + 1) _ _ _ _ H locs ls (by omega) (by omega) (by rw [k5, et, nI_1]) k4 rfl hw ew hB (lv_sub hl [0, 3, 4, 5] rfl)
              · rw [if_neg c_92]
                rw [if_neg c_92] at hq
                refine lv_iload hx hb d_Model_run_95 (lv_at hl 1 rfl) ?_
                refine lv_aload_n hx hb d_Model_run_97 rfl (lv_at hl 4 rfl) ?_
                refine zw_getR X hB fl_Model_60 32 (hm 32 _ rfl) rfl d_Model_run_98 ?_
                refine lv_iload hx hb d_Model_run_101 (lv_at hl 0 rfl) ?_
                refine zw_iald X hB 49 (hm 49 _ rfl) (vp_in_nI hj (by decide)) d_Model_run_103 ?_
                refine lv_bipush (v := (-2)) hx hb d_Model_run_104 (by decide) ?_
                refine lv_icmp_ne (tgt := 113) hx hb d_Model_run_106 (by decide) (fun c_106 => ?_) (fun c_106 => ?_)
                · refine lv_iconst (v := 1) hx hb d_Model_run_113 (by decide) ?_
                  refine lv_isub hx hb d_Model_run_114 ?_
                  refine lv_istore (lv' := [(7, .int (pl - 1)), (8, .int (nI j)), (6, .int e0), (4, .long (p_x y)), (0, .ref (ad 32)), (1, .int wk)]) hx hb d_Model_run_115 hl (by decide) rfl (fun ls hl => ?_)
                  refine lv_iinc (v := nI (j + 1)) (lv' := [(8, .int (nI (j + 1))), (7, .int (pl - 1)), (6, .int e0), (4, .long (p_x y)), (0, .ref (ad 32)), (1, .int wk)]) hx hb d_Model_run_117 hl (k := 1) rfl (nI_1 j) (by decide) rfl (fun ls hl => ?_)
                  refine lv_goto (tgt := 78) hx hb d_Model_run_120 (by decide) ?_
                  rw [nI_1 j] at hq ⊢
                  exact ihg (j + 1) _ H locs ls (hF.2.2 (by rw [← ej]; exact c_87) c_92) hq hB (lv_sub hl [0, 1, 2, 3, 4, 5] rfl)
                · exact absurd c_106 c_87
        exact find 17 0 _ _ _ ls k2 rfl hB (lv_sub hl [0, 1, 3, 2, 4, 5] rfl)
  unfold q_run
  refine lv_aload_n hx hb d_Model_run_0 rfl (lv_at hl 0 rfl) ?_
  refine lv_iload_n hx hb d_Model_run_1 rfl (lv_at hl 1 rfl) ?_
  refine lv_iconst (v := 1) hx hb d_Model_run_2 (by decide) ?_
  refine lv_bipush (v := 16) hx hb d_Model_run_3 (by decide) ?_
  refine zw_callSr X hB mv_Model_92 (c_Model_isIn hm z mi ml wk 1 16) rfl hl.1 ⟨Nat.le_of_ble_eq_true rfl, Nat.le_of_ble_eq_true rfl⟩ rfl (Nat.le_of_ble_eq_true rfl) ⟨Nat.le_of_ble_eq_true rfl, Nat.le_of_ble_eq_true rfl⟩ d_Model_run_5 (fun H locs hB => ?_)
  refine lv_if_eq (tgt := 15) hx hb d_Model_run_8 (by decide) (fun c_8 => ?_) (fun c_8 => ?_)
  · rw [if_pos c_8]
    refine lv_iconst (v := 1) hx hb d_Model_run_15 (by decide) ?_
    refine zw_putI X hB fp_Model_85 (fun h => by cases h) 32 (hm 32 _ rfl) rfl d_Model_run_16 (fun H locs hB => ?_)
    refine lv_aload_n hx hb d_Model_run_19 rfl (lv_at hl 0 rfl) ?_
    refine zw_getI X hB fl_Model_85 32 (hm 32 _ rfl) rfl d_Model_run_20 ?_
    refine lv_if_le (tgt := 28) hx hb d_Model_run_23 (by decide) (fun c_23 => ?_) (fun c_23 => ?_)
    · exact absurd c_23 (by rw [zw_up_self]; decide)
    · refine lv_iconst (v := 0) hx hb d_Model_run_26 (by decide) ?_
      exact zc_iret X hr hlocks hB (by rfl) (by rfl) (by rfl) d_Model_run_27
  · rw [if_neg c_8]
    obtain ⟨hw, ew⟩ := hin1 c_8
    have hG0 := hG0 c_8
    refine lv_iconst (v := 0) hx hb d_Model_run_11 (by decide) ?_
    refine lv_goto (tgt := 16) hx hb d_Model_run_12 (by decide) ?_
    refine zw_putI X hB fp_Model_85 (fun h => by cases h) 32 (hm 32 _ rfl) rfl d_Model_run_16 (fun H locs hB => ?_)
    refine lv_aload_n hx hb d_Model_run_19 rfl (lv_at hl 0 rfl) ?_
    refine zw_getI X hB fl_Model_85 32 (hm 32 _ rfl) rfl d_Model_run_20 ?_
    refine lv_if_le (tgt := 28) hx hb d_Model_run_23 (by decide) (fun c_23 => ?_) (fun c_23 => ?_)
    · refine lv_aload_n hx hb d_Model_run_28 rfl (lv_at hl 0 rfl) ?_
      refine lv_iload_n hx hb d_Model_run_29 rfl (lv_at hl 1 rfl) ?_
      refine zw_callVv X hB mv_Model_157 32 (hm 32 _ rfl) rfl (c_Model_begin hm z (zw_up mi 32 0 0) ml wk hn (by subst_vars; simpa [zw_up] using en) w hw ew w8 hw8 (by subst_vars; simpa [zw_up] using ew8)) rfl hl.1 ⟨Nat.le_of_ble_eq_true rfl, Nat.le_of_ble_eq_true rfl⟩ rfl (Nat.le_of_ble_eq_true rfl) ⟨Nat.le_of_ble_eq_true rfl, Nat.le_of_ble_eq_true rfl⟩ d_Model_run_30 (fun H locs hB => ?_)
      refine lv_lload_n hx hb d_Model_run_33 rfl (lv_at hl 2 rfl) ?_
      refine lv_lstore (lv' := [(4, .long x), (0, .ref (ad 32)), (1, .int wk), (2, .long x)]) hx hb d_Model_run_34 hl (by decide) rfl (fun ls hl => ?_)
      refine lv_aload_n hx hb d_Model_run_36 rfl (lv_at hl 1 rfl) ?_
      refine lv_iload_n hx hb d_Model_run_37 rfl (lv_at hl 2 rfl) ?_
      refine zw_callVr X hB mv_Model_160 32 (hm 32 _ rfl) rfl (c_Model_ending hm z ((q_begin wk (zw_up mi 32 0 0) ml).1) ((q_begin wk (zw_up mi 32 0 0) ml).2) wk w hw ew (hG.1 _ hG0.1).1) rfl hl.1 ⟨Nat.le_of_ble_eq_true rfl, Nat.le_of_ble_eq_true rfl⟩ rfl (Nat.le_of_ble_eq_true rfl) ⟨Nat.le_of_ble_eq_true rfl, Nat.le_of_ble_eq_true rfl⟩ d_Model_run_38 (fun H locs hB => ?_)
      refine lv_istore (lv' := [(6, .int (q_end ((q_begin wk (zw_up mi 32 0 0) ml).1) wk)), (4, .long x), (0, .ref (ad 32)), (1, .int wk), (2, .long x)]) hx hb d_Model_run_41 hl (by decide) rfl (fun ls hl => ?_)
      exact main 20001 0 _ _ _ _ _ _ ls rfl (by omega) hG0.2 hG0.1 rfl hw ew hB (lv_sub hl [0, 1, 2, 3] rfl)
    · exact absurd (by rw [zw_up_self]; decide) c_23
