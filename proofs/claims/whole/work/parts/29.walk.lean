theorem mv_Law_53 : zw_MS R_Law 53 Y_Law_cell 2 := ⟨Or.inl (zw_in (List.mem_of_getElem? (i := 306) (by decide +kernel)) (by decide +kernel)), (zw_in (List.mem_of_getElem? (i := 307) (by decide +kernel)) (by decide +kernel)), (zw_in (List.mem_of_getElem? (i := 308) (by decide +kernel)) (by decide +kernel)), (zw_in (List.mem_of_getElem? (i := 24) (by decide +kernel)) (by decide +kernel)), by decide +kernel, by decide +kernel⟩
theorem mv_Law_59 : zw_MI R_Law 59 Y_TS_init 2 := ⟨rfl, rfl, Or.inl (zw_in (List.mem_of_getElem? (i := 43) (by decide +kernel)) (by decide +kernel)), (zw_in (List.mem_of_getElem? (i := 44) (by decide +kernel)) (by decide +kernel)), (zw_in (List.mem_of_getElem? (i := 45) (by decide +kernel)) (by decide +kernel)), (zw_in (List.mem_of_getElem? (i := 25) (by decide +kernel)) (by decide +kernel)), by decide +kernel, by decide +kernel⟩
theorem mv_Law_64 : zw_MI R_Law 64 Y_Model_init 2 := ⟨rfl, rfl, Or.inl (zw_in (List.mem_of_getElem? (i := 610) (by decide +kernel)) (by decide +kernel)), (zw_in (List.mem_of_getElem? (i := 611) (by decide +kernel)) (by decide +kernel)), (zw_in (List.mem_of_getElem? (i := 612) (by decide +kernel)) (by decide +kernel)), (zw_in (List.mem_of_getElem? (i := 33) (by decide +kernel)) (by decide +kernel)), by decide +kernel, by decide +kernel⟩
theorem nl_Law_62 : zw_NL R_Law 62 7 36 [(0, 0), (0, 0), (0, 0), (3, 0), (3, 0), (3, 0), (3, 0), (3, 0), (3, 0), (3, 0), (3, 0), (3, 0), (3, 0), (3, 0), (3, 0), (0, 0), (0, 0), (3, 0), (3, 0), (3, 0), (3, 0), (3, 0), (3, 0), (0, 0), (0, 0), (0, 0), (3, 0), (3, 0), (3, 0), (0, 0), (0, 0), (0, 0), (0, 0), (0, 0), (0, 0), (0, 0)] := ⟨R_Model, T_Model, ty_Model, rfl, ly_Model, ty_Model_ok, (zw_in (List.mem_of_getElem? (i := 608) (by decide +kernel)) (by decide +kernel)), (zw_in (List.mem_of_getElem? (i := 609) (by decide +kernel)) (by decide +kernel)), (zw_in (List.mem_of_getElem? (i := 33) (by decide +kernel)) (by decide +kernel)), zw_dfl (by decide +kernel) (by decide +kernel) (by decide +kernel)⟩
theorem nl_Law_8 : zw_NL R_Law 8 6 4 [(3, 0), (3, 0), (3, 0), (3, 0)] := ⟨R_TS, T_TS, ty_TS, rfl, ly_TS, ty_TS_ok, (zw_in (List.mem_of_getElem? (i := 41) (by decide +kernel)) (by decide +kernel)), (zw_in (List.mem_of_getElem? (i := 42) (by decide +kernel)) (by decide +kernel)), (zw_in (List.mem_of_getElem? (i := 25) (by decide +kernel)) (by decide +kernel)), zw_dfl (by decide +kernel) (by decide +kernel) (by decide +kernel)⟩
theorem pl_Law_53 : Cond.methodLink R_Law 53 Y_Law_cell.1 ∈ zw_Tb := (zw_in (List.mem_of_getElem? (i := 306) (by decide +kernel)) (by decide +kernel))
def zj_m0 (n r : Nat) : zw_I := (p_reset n (n + 1) 0 (zw_up (zw_up (fun _ _ => 0) 1 0 (nI n)) 1 1 (nI r)) (fun _ _ => 0)).1
def zj_l0 (n r : Nat) : zw_L := (p_reset n (n + 1) 0 (zw_up (zw_up (fun _ _ => 0) 1 0 (nI n)) 1 1 (nI r)) (fun _ _ => 0)).2
def zj_m1 (n r : Nat) : zw_I := zw_up (zw_up (zj_m0 n r) 32 1 (nI n)) 32 2 (nI r)
set_option maxHeartbeats 4000000 in
set_option maxRecDepth 100000 in
theorem zs_walk {p : Program} {l : Launch} (hTr : l.stackTraces = false) {e : Env} {s : State} {m : MethodId} {below : List Frame} {meth : Method} {c : Code} {b L : Nat} {xs : Nat → Int32} (hL : L ≤ 3074) (C0 : lw_At p s m meth c b L xs)
    (J : Nat → zw_I → zw_L → Prop) (hAg : ∀ n, 1 ≤ n → n ≤ 16 → zl_Ag n (J n)) (hJ0 : ∀ n r : Nat, 1 ≤ n → n ≤ 16 → 1 ≤ r → r ≤ 1000 → J n (q_clear (zj_m1 n r) (zj_l0 n r)).1 (q_clear (zj_m1 n r) (zj_l0 n r)).2) :
    W p l e room_1 s m #[Value.ref b] below meth c s.heap [] 0 0 (lw_Z below #[Value.ref b] s) (entryFrame m ([Value.ref b] : List Value).toArray 8) := by
  obtain ⟨hx, hb, hr, hml, hown, hts, hX, hbl, hlocks, hgv⟩ := C0
  obtain ⟨D, cA, hE⟩ := zs_E hts
  have Zx := zs_X hE hts hgv
  have Zz := zs_Z hts hgv
  have X : zw_C D cA R_Law code 8 p m c s := ⟨hx, hb, hml, hown, hE⟩
  obtain ⟨n, n1, hn, en⟩ := p_near_n (zk_r L xs 0) 16 (by omega) (by omega)
  obtain ⟨r, r1, hr1, er⟩ := p_near_n (zk_r L xs 1) 1000 (by omega) (by omega)
  have en : p_nearest (zk_r L xs 0) 1 16 = nI n := en
  have er : p_nearest (zk_r L xs 1) 1 1000 = nI r := er
  have eq0 : q_near (zk_r L xs 0) 16 = nI n := (q_near_eq _ 16 (by omega) (by omega)).trans en
  have eq1 : q_near (zk_r L xs 1) 1000 = nI r := (q_near_eq _ 1000 (by omega) (by omega)).trans er
  have hbA : ¬ (fun q => s.heap.size ≤ q) b := Nat.not_le.mpr hbl
  have in0 : ¬ nI L ≤ 0 → vp_in (0 : Int32) L := fun h => by
    have h9 : 0 < L := Nat.pos_of_ne_zero fun e9 => h (by rw [e9]; exact Int32.le_refl _)
    exact vp_in_nI (n := 0) h9 (by omega)
  have in1 : ¬ nI L ≤ 1 → vp_in (1 : Int32) L := fun h => by
    have h9 : 1 < L := Nat.not_le.mp fun e9 => h (nI_le (b := 1) e9 (by omega))
    exact vp_in_nI (n := 1) h9 (by omega)
  have hB : zw_B D cA (zo n s.heap.size) (fun _ => none) (fun q => s.heap.size ≤ q) s.heap (fun _ _ => 0) (fun _ _ => 0) s.heap.size s.heap [] := ⟨fun k q h => (by cases h), fun j k p q h => (by cases h), fun k q h => (by cases h), va_S.rf, rfl, fun q h => h⟩
  rw [lg_entry_eq]
  have hl := lv_entry ([.ref b] : List Value) (n := 8) (Nat.le_of_ble_eq_true rfl)
  generalize (lg_sl ([.ref b] : List Value) ++ List.replicate (8 - (lg_sl ([.ref b] : List Value)).length) Slot.unset).toArray = ls at hl ⊢
  have hl : lv_has ls 8 [(0, .ref b)] := hl
  refine zw_new X hB nl_Law_8 0 rfl (fun _ => rfl) (fun _ => rfl) (sh' := zs_up _ 0 (.inl (6, [(3, 0), (3, 0), (3, 0), (3, 0)]))) zs_self (fun i hi => zs_ne hi) (by show 0 + 1 ≤ 601024; omega) (by show 0 + 4 ≤ 7293000; omega) d_Law_law_0 (fun H hB => ?_)
  refine lv_dup hx hb d_Law_law_3 rfl ?_
  refine lv_aload_n hx hb d_Law_law_4 rfl (lv_at hl 0 rfl) ?_
  refine lv_iconst (v := 0) hx hb d_Law_law_5 (by decide) ?_
  refine zk_call X hX hbl hbA hB mv_Law_53 pl_Law_53 in0 rfl hl.1 ⟨Nat.le_of_ble_eq_true rfl, Nat.le_of_ble_eq_true rfl⟩ (Nat.le_of_ble_eq_true rfl) ⟨(by show 0 + 1 + 0 ≤ 601024; omega), (by show 0 + 4 + 0 ≤ 7293000; omega)⟩ d_Law_law_6 (fun H locs hB => ?_)
  refine lv_aload_n hx hb d_Law_law_9 rfl (lv_at hl 0 rfl) ?_
  refine lv_iconst (v := 1) hx hb d_Law_law_10 (by decide) ?_
  refine zk_call X hX hbl hbA hB mv_Law_53 pl_Law_53 in1 rfl hl.1 ⟨Nat.le_of_ble_eq_true rfl, Nat.le_of_ble_eq_true rfl⟩ (Nat.le_of_ble_eq_true rfl) ⟨(by show 0 + 1 + 0 + 0 ≤ 601024; omega), (by show 0 + 4 + 0 + 0 ≤ 7293000; omega)⟩ d_Law_law_11 (fun H locs hB => ?_)
  refine zw_callIv X hB mv_Law_59 (c_TS_init hn (fun _ => rfl) zs_self (zk_r L xs 0) (zk_r L xs 1) en) rfl hl.1 ⟨Nat.le_of_ble_eq_true rfl, Nat.le_of_ble_eq_true rfl⟩ rfl (Nat.le_of_ble_eq_true rfl) ⟨(by show 0 + 1 + 0 + 0 + 200 ≤ 601024; omega), (by show 0 + 4 + 0 + 0 + 2000 ≤ 7293000; omega)⟩ d_Law_law_14 (fun H locs hB => ?_)
  rw [er] at hB
  have hB : zw_B D cA (zo n s.heap.size) _ (fun q => s.heap.size ≤ q) s.heap (zj_m0 n r) (zj_l0 n r) (s.heap.size + (29 + 5 * n)) H locs := hB
  refine lv_astore_n (lv' := [(1, .ref (zo n s.heap.size 0)), (0, .ref b)]) hx hb d_Law_law_17 rfl hl (by decide) rfl (fun ls hl => ?_)
  have h0 : ∀ k j : Nat, 29 < k → zj_m0 n r k j = 0 := fun k j h => by
    unfold zj_m0
    rw [p_reset_off1 (by omega) (by omega) (by omega) (by omega) (Or.inl (by omega)), zw_up_ne1 _ _ _ (by omega), zw_up_ne1 _ _ _ (by omega)]
  have h1 : ∀ k j : Nat, 29 < k → zj_l0 n r k j = 0 := fun k j h => by
    unfold zj_l0
    rw [p_reset_off2 (by omega)]
  refine zw_new X hB nl_Law_62 32 (zo_32 n _) (fun j => h0 32 j (by omega)) (fun j => h1 32 j (by omega)) (sh' := zs_up _ 32 (.inl (7, [(0, 0), (0, 0), (0, 0), (3, 0), (3, 0), (3, 0), (3, 0), (3, 0), (3, 0), (3, 0), (3, 0), (3, 0), (3, 0), (3, 0), (3, 0), (0, 0), (0, 0), (3, 0), (3, 0), (3, 0), (3, 0), (3, 0), (3, 0), (0, 0), (0, 0), (0, 0), (3, 0), (3, 0), (3, 0), (0, 0), (0, 0), (0, 0), (0, 0), (0, 0), (0, 0), (0, 0)]))) zs_self (fun i hi => zs_ne hi) (by show 0 + 1 + 0 + 0 + 200 + 1 ≤ 601024; omega) (by show 0 + 4 + 0 + 0 + 2000 + 36 ≤ 7293000; omega) d_Law_law_18 (fun H hB => ?_)
  refine lv_dup hx hb d_Law_law_21 rfl ?_
  refine lv_aload_n hx hb d_Law_law_22 rfl (lv_at hl 1 rfl) ?_
  refine lv_iconst (v := 0) hx hb d_Law_law_23 (by decide) ?_
  refine zk_call X hX hbl hbA hB mv_Law_53 pl_Law_53 in0 rfl hl.1 ⟨Nat.le_of_ble_eq_true rfl, Nat.le_of_ble_eq_true rfl⟩ (Nat.le_of_ble_eq_true rfl) ⟨(by show 0 + 1 + 0 + 0 + 200 + 1 + 0 ≤ 601024; omega), (by show 0 + 4 + 0 + 0 + 2000 + 36 + 0 ≤ 7293000; omega)⟩ d_Law_law_24 (fun H locs hB => ?_)
  refine lv_aload_n hx hb d_Law_law_27 rfl (lv_at hl 1 rfl) ?_
  refine lv_iconst (v := 1) hx hb d_Law_law_28 (by decide) ?_
  refine zk_call X hX hbl hbA hB mv_Law_53 pl_Law_53 in1 rfl hl.1 ⟨Nat.le_of_ble_eq_true rfl, Nat.le_of_ble_eq_true rfl⟩ (Nat.le_of_ble_eq_true rfl) ⟨(by show 0 + 1 + 0 + 0 + 200 + 1 + 0 + 0 ≤ 601024; omega), (by show 0 + 4 + 0 + 0 + 2000 + 36 + 0 + 0 ≤ 7293000; omega)⟩ d_Law_law_29 (fun H locs hB => ?_)
  refine zw_callIv X (hB.to (show _ = s.heap.size + (30 + 5 * n) by omega)) mv_Law_64 (c_Model_init hn (fun _ => rfl) zs_self (zk_r L xs 0) (zk_r L xs 1) (zj_m0 n r) (zj_l0 n r) (fun k j h => h0 k j (by omega)) (fun k j h => h1 k j (by omega))) rfl hl.1 ⟨Nat.le_of_ble_eq_true rfl, Nat.le_of_ble_eq_true rfl⟩ rfl (Nat.le_of_ble_eq_true rfl) ⟨(by show 0 + 1 + 0 + 0 + 200 + 1 + 0 + 0 + 21 ≤ 601024; omega), (by show 0 + 4 + 0 + 0 + 2000 + 36 + 0 + 0 + 1300 ≤ 7293000; omega)⟩ d_Law_law_32 (fun H locs hB => ?_)
  have em : q_mk (zk_r L xs 0) (zk_r L xs 1) (zj_m0 n r) = zj_m1 n r := by unfold q_mk zj_m1; rw [eq0, eq1]
  rw [em] at hB
  refine lv_astore_n (lv' := [(2, .ref (zo n s.heap.size 32)), (1, .ref (zo n s.heap.size 0)), (0, .ref b)]) hx hb d_Law_law_35 rfl hl (by decide) rfl (fun ls hl => ?_)
  refine lv_iconst (v := 1) hx hb d_Law_law_36 (by decide) ?_
  refine zw_newJ X hB kw_long 30 (zo_30 n _) (fun j => ?_) (by decide) (by decide) (by omega) (sh' := zs_up _ 30 (.inr (1, 1, 0))) zs_self (fun i hi => zs_ne hi) (by show 0 + 1 + 0 + 0 + 200 + 1 + 0 + 0 + 21 + 1 ≤ 601024; omega) (by show 0 + 4 + 0 + 0 + 2000 + 36 + 0 + 0 + 1300 + 1 ≤ 7293000; omega) d_Law_law_37 (fun H hB => ?_)
  · show (q_clr1 17 0 (q_clr0 (zj_m1 n r)) (zj_l0 n r)).2 30 j = 0
    rw [q_clr1_off2 (by decide)]
    exact h1 30 j (by omega)
  refine lv_astore_n (lv' := [(3, .ref (zo n s.heap.size 30)), (2, .ref (zo n s.heap.size 32)), (1, .ref (zo n s.heap.size 0)), (0, .ref b)]) hx hb d_Law_law_39 rfl hl (by decide) rfl (fun ls hl => ?_)
  refine lv_iconst (v := 2) hx hb d_Law_law_40 (by decide) ?_
  refine lv_istore (lv' := [(4, .int 2), (3, .ref (zo n s.heap.size 30)), (2, .ref (zo n s.heap.size 32)), (1, .ref (zo n s.heap.size 0)), (0, .ref b)]) hx hb d_Law_law_41 hl (by decide) rfl (fun ls hl => ?_)
  refine zw_wide (k := 300 + 2) (n := 4000 + 2) (by omega) (by omega) ?_
  have hs : ∀ (k : Nat) (q : zw_Sp), shX n k = some q → zs_up (shK_Model_init n (zs_up (shK_TS_init n (zs_up (fun _ => none) 0 (.inl (6, [(3, 0), (3, 0), (3, 0), (3, 0)])))) 32 (.inl (7, [(0, 0), (0, 0), (0, 0), (3, 0), (3, 0), (3, 0), (3, 0), (3, 0), (3, 0), (3, 0), (3, 0), (3, 0), (3, 0), (3, 0), (3, 0), (0, 0), (0, 0), (3, 0), (3, 0), (3, 0), (3, 0), (3, 0), (3, 0), (0, 0), (0, 0), (0, 0), (3, 0), (3, 0), (3, 0), (0, 0), (0, 0), (0, 0), (0, 0), (0, 0), (0, 0), (0, 0)])))) 30 (.inr (1, 1, 0)) k = some q := fun k q h => by
    have hk : k < 30 ∨ 63 < k := by
      rcases Nat.lt_or_ge k 30 with h9 | h9
      · exact Or.inl h9
      · rcases Nat.lt_or_ge k 64 with h8 | h8
        · exfalso
          unfold shX at h
          rw [if_pos h8, List.getD_eq_getElem?_getD, List.getElem?_eq_none (by show 30 ≤ k; omega)] at h
          cases h
        · exact Or.inr h8
    rw [zs_ne (by omega), shK_Model_off (by omega), zs_ne (by omega)]
    exact shK_TS_ok hn k q h
  have hm : ∀ (k : Nat) (q : zw_Sp), shM k = some q → zs_up (shK_Model_init n (zs_up (shK_TS_init n (zs_up (fun _ => none) 0 (.inl (6, [(3, 0), (3, 0), (3, 0), (3, 0)])))) 32 (.inl (7, [(0, 0), (0, 0), (0, 0), (3, 0), (3, 0), (3, 0), (3, 0), (3, 0), (3, 0), (3, 0), (3, 0), (3, 0), (3, 0), (3, 0), (3, 0), (0, 0), (0, 0), (3, 0), (3, 0), (3, 0), (3, 0), (3, 0), (3, 0), (0, 0), (0, 0), (0, 0), (3, 0), (3, 0), (3, 0), (0, 0), (0, 0), (0, 0), (0, 0), (0, 0), (0, 0), (0, 0)])))) 30 (.inr (1, 1, 0)) k = some q := fun k q h => by
    have hk : k ≠ 30 := fun e9 => by
      subst e9
      cases h
    rw [zs_ne hk]
    exact shK_Model_ok k q h
  exact zl_loop hTr hn hs hm zs_self (hAg n n1 hn) X hr hlocks Zx Zz hL hX hbl 600 2 _ _ _ _ _ ls (by omega) (by omega) (hJ0 n r n1 hn r1 hr1) hB (lv_sub hl [0, 4, 3, 2, 1] rfl)
