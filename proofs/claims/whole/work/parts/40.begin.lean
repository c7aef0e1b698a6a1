theorem zr_cnt_0 {g : Nat → Int32} : ∀ {w : Nat}, (∀ v, v < w → g v = -1) → zr_cnt g w = 0
  | 0, _ => rfl
  | w + 1, h => by
    rw [zr_cnt, zr_cnt_0 (w := w) (fun v hv => h v (by omega)), if_pos (Or.inl (h w (by omega)))]
theorem zr_live_0 {g : Nat → Int32} {w : Nat} (h : ∀ v, v < w → g v = -1) : zr_live g w = List.range w := by
  unfold zr_live
  refine List.filter_eq_self.mpr fun v hv => ?_
  rw [decide_eq_true_iff, h v (List.mem_range.mp hv)]
  decide
/-- a run's beginning, in both -/
theorem zr_begin {n w : Nat} {mi qi : zw_I} {ml ql : zw_L} (h : zj n mi ml qi ql) (hw : w ≤ 16) : zr n w (p_prep n (nI w) mi ml).1 (p_prep n (nI w) mi ml).2 (q_begin (nI w) (zw_up qi 32 0 0) ql).1 (q_begin (nI w) (zw_up qi 32 0 0) ql).2 := by
  obtain ⟨hS, hV, ⟨-, -, -, -, r5, r6⟩, -, -, ⟨-, -, hl3⟩, -, hc2, hc3⟩ := h
  have hn : n ≤ 16 := hS.1.1.2
  have hn1 : 1 ≤ n := hS.1.1.1
  obtain ⟨c, c0, c1, c2⟩ := hS.2.2.1
  obtain ⟨P, eP, p5, p18, p28, p29, p62, p22, p41, p42, p23, p25, pw, po, pL⟩ := p_prep_is hn hw c0 mi ml c1
  obtain ⟨N, eN, n23, n25, n0, n32, n44, n49, n53, n48, n52, n50, no, nL, nL'⟩ := q_begin_is hn hw c0 (zw_up qi 32 0 0) ql (by rw [zw_up_ne2 _ _ _ (by decide)]; exact hS.1.2.1.2) (by rw [zw_up_ne2 _ _ _ (by decide)]; exact c2)
  rw [eP, eN]
  have hq : ∀ a b, a ≠ 32 → zw_up qi 32 0 0 a b = qi a b := fun a b h => zw_up_ne1 _ _ _ h
  have e49 : ∀ v, v < w → N 49 v = -1 := n49
  refine ⟨hw, hS.same (fun a b hs => po a b ?_ ?_ ?_ ?_ ?_ ?_ ?_ ?_ ?_ ?_) (fun b => ?_) (fun a b hs => ?_) (fun b => nL' 35 b (fun e => absurd e (by decide))), fun i j hi hj => ?_, ⟨⟨0, by omega, p5 8 (by omega) (by omega), n0 29 (by omega), fun k hk => by omega⟩, fun i hi => by rw [n52 i hi, p25 i hi], fun i j hi hj => by rw [n53 _ (by omega), pw i j hi hj], ⟨?_, ?_, ?_, ?_, ?_⟩, fun k hk => ?_, fun k hk => ?_⟩,
    ⟨0, 0, List.range n, by omega, p41, by rw [List.length_range]; exact p42, by rw [List.length_range]; exact n23, fun k hk => ?_, List.nodup_range, fun x hx v hv => ?_, fun x hx => ?_, p5 8 (by omega) (by omega), ?_⟩, ?_, ⟨fun v hv => ?_, fun v u hv hu hvu e => Or.inl (e49 v hv)⟩, fun i hi => ?_, ?_, fun i hi => ?_, fun k hk => ?_, fun v hv => ?_⟩
  all_goals try (unfold zx_st at hs; omega)
  · rw [pL]
    exact if_neg (by omega)
  · unfold zq_st at hs
    by_cases e : a = 32
    · subst e
      rw [n32 b (by omega) (by omega) (by omega) (by omega), zw_up_ne2 _ _ _ (by omega)]
    · rw [no a b e (by omega) (by omega) (by omega) (by omega) (by omega) (by omega), hq a b e]
  · rw [pL]
    by_cases e : j = 0
    · subst e
      dsimp only
      rw [if_pos (by omega), Nat.add_zero, nL i hi, show 112 + i - 112 = i by omega]
      exact hS.1.2.2.2.2.2.2 i hi
    · dsimp only
      rw [if_neg (by omega), nL' 47 _ (fun _ u hu => by omega)]
      exact hV i j hi (by omega) hj
  · rw [n0 30 (by omega), p5 11 (by omega) (by omega)]
  · rw [n0 31 (by omega), p5 12 (by omega) (by omega)]
  · rw [n0 32 (by omega), p5 13 (by omega) (by omega)]
  · rw [n0 33 (by omega), p5 14 (by omega) (by omega)]
  · rw [n0 34 (by omega), p5 10 (by omega) (by omega)]
  · rw [n44, p18, hq 43 k (by decide), hq 44 k (by decide), (hS.2.2.2 k hk).2.2.2, r5 k hk]
  · rw [n50]
    by_cases e : k < n
    · rw [if_pos e]; exact vp_in_nI (by omega) (by omega)
    · rw [if_neg e, hq 50 k (by decide)]; exact r6 k hk
  · have hk' : k < n := by simpa using hk
    rw [List.getElem_range, Nat.zero_add, Nat.mod_eq_of_lt hk', p22 k hk', n50, if_pos hk']
    exact ⟨rfl, rfl, hk'⟩
  · have hx' := List.mem_range.mp hx
    rw [e49 v hv]
    exact fun e => nI_m1 (by omega) e.symm
  · have hx' := List.mem_range.mp hx
    obtain ⟨t, t1, t2, t3, -⟩ := hS.1.2.2.2.2.1 x hx'
    rw [p23 x hx', po 7 x (by decide) (by decide) (by decide) (by decide) (by decide) (by decide) (by decide) (by decide) (by decide) (by decide), t3]
    exact fun e => by have := nI_inj (by omega) (by omega) e; omega
  · rw [List.length_range, zr_cnt_0 e49]
    omega
  · unfold zr_L
    rw [zr_live_0 e49]
    refine ⟨by rw [List.length_range]; exact p62, by rw [List.length_range]; exact n25, fun k hk => ?_⟩
    have hk' : k < w := by simpa using hk
    rw [List.getElem_range, p28, if_pos hk']
  · right
    rw [e49 v hv, p29, if_pos hv]
    exact ⟨rfl, Or.inl rfl⟩
  · obtain ⟨t, t1, t2, t3, -⟩ := hS.1.2.2.2.2.1 i hi
    exact ⟨0, t, by omega, t2, p23 i hi, n48 i hi, by rw [po 7 i (by decide) (by decide) (by decide) (by decide) (by decide) (by decide) (by decide) (by decide) (by decide) (by decide)]; exact t3⟩
  · rw [n0 24 (by omega), p5 9 (by omega) (by omega)]
  · rw [p22 i hi]; exact vp_in_nI hi (by omega)
  · rw [p28]
    by_cases e : k < w
    · rw [if_pos e]; exact vp_in_nI (by omega) (by omega)
    · rw [if_neg e]; exact hc2 k hk
  · rw [p29]
    by_cases e : v < w
    · rw [if_pos e]; exact Or.inl rfl
    · rw [if_neg e]; exact hc3 v hv
