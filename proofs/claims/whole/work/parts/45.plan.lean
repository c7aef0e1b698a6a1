/-! THE CALLS that tell the plan -/
theorem zA_out {ml : zw_L} {v : Int64} {P : Int64} (h : v = P) : (0 : Int32) = 0 → zw_up ml 30 0 v 30 (0 : Int32).toNatClampNeg = P := fun _ => by
  show zw_up ml 30 0 v 30 0 = P
  rw [zw_up_self, h]
theorem zA_stop {n : Nat} : zl_A_stop n (zJ n) := by
  intro mi ml x h
  have hn := zJ_n h
  have e16 : mi 32 16 = mi 1 7 := h.1.1.2.2.2.1.1
  have key : ∀ x : Int32, (x = -1 ∨ vp_in x n) → (zw_up (zw_up (zw_up mi 1 7 x) 32 0 0) 32 16 x) 32 0 = 0 ∧ ((0 : Int32) = 0 → zw_up ml 30 0 (mi 1 7).toInt64 30 (0 : Int32).toNatClampNeg = (zw_up (zw_up mi 1 7 x) 32 0 0 32 16).toInt64) ∧ zJ n (zw_up (zw_up (zw_up mi 1 7 x) 32 0 0) 32 16 x) (zw_up ml 30 0 (mi 1 7).toInt64) := fun x hx => by
    refine ⟨by rw [zw_up_ne2 _ _ _ (by decide), zw_up_self], zA_out (by rw [zw_up_ne2 _ _ _ (by decide), zw_up_ne1 _ _ _ (by decide), e16]), ?_⟩
    have off : ∀ a b, (a ≠ 1 ∨ b ≠ 7) → (a ≠ 32 ∨ b ≠ 0) → (a ≠ 32 ∨ b ≠ 16) → zw_up (zw_up (zw_up mi 1 7 x) 32 0 0) 32 16 x a b = mi a b := fun a b h1 h2 h3 => by
      rw [zw_up_off _ _ h3, zw_up_off _ _ h2, zw_up_off _ _ h1]
    have offL : ∀ a b, a ≠ 30 → zw_up ml 30 0 (mi 1 7).toInt64 a b = ml a b := fun a b h1 => zw_up_ne1 _ _ _ h1
    obtain ⟨⟨n1, ⟨b1, b2⟩, b3, b4, b5, b6, b7⟩, hN, hF⟩ := h.1
    refine ⟨⟨⟨n1, ⟨?_, ?_⟩, ?_, ⟨?_, ?_⟩, fun i hi => ?_, fun i hi => ?_, fun i hi => ?_⟩, hN.same hn (fun a b ha => off a b (by omega) (by omega) (by omega)) (fun a b ha => off a b (by omega) (by omega) (by omega)), hF.same (fun a b ha => off a b (by omega) (by omega) (by omega)) (fun a b ha => off a b (by omega) (by omega) (by omega))⟩, zJ_T h (fun a b ha => off a b (by omega) (by omega) (by omega)) (fun a b ha => offL a b (by omega))⟩
    · rw [off 1 0 (by omega) (by omega) (by omega)]; exact b1
    · rw [off 32 1 (by omega) (by omega) (by omega)]; exact b2
    · rw [off 1 1 (by omega) (by omega) (by omega), off 32 2 (by omega) (by omega) (by omega)]; exact b3
    · rw [zw_up_self, zw_up_ne1 _ _ _ (by decide), zw_up_ne1 _ _ _ (by decide), zw_up_self]
    · rw [zw_up_ne1 _ _ _ (by decide), zw_up_ne1 _ _ _ (by decide), zw_up_self]; exact hx
    · rw [off 7 i (by omega) (by omega) (by omega), off 33 i (by omega) (by omega) (by omega)]; exact b5 i hi
    · rw [off 8 i (by omega) (by omega) (by omega), off 34 i (by omega) (by omega) (by omega)]; exact b6 i hi
    · rw [offL 35 i (by omega), offL 9 i (by omega)]; exact b7 i hi
  by_cases c0 : x = -1
  · rw [show p_stop mi ml x = .inr (some (.int (mi 1 7)), zw_up mi 1 7 x, ml) from if_pos c0, zh_iR, zh_lR, zh_cR, zh_vI, show q_stop (zw_up mi 1 7 x) x = (zw_up (zw_up mi 1 7 x) 32 0 0 32 16, zw_up (zw_up (zw_up mi 1 7 x) 32 0 0) 32 16 x) from if_pos c0]
    exact key x (Or.inl c0)
  · rcases zJ_is hn (zJ_10 h) (zJ_321 h) x with ⟨c1, c2⟩ | ⟨j, hj, e, c1, c2⟩
    · rw [show p_stop mi ml x = .inl zt_I by unfold p_stop; rw [if_neg c0, if_pos c1], zh_iL, zh_lL, zh_cL, show q_stop mi x = (0, zw_up mi 32 0 1) by unfold q_stop; rw [if_neg c0, if_pos c2]]
      exact zJ_no h zh_kI (by decide)
    · have d1 : ¬ p_isShare mi x = 0 := by rw [c1]; decide
      have d2 : ¬ q_isShare (zw_up mi 1 7 x) x = 0 := by
        unfold q_isShare
        rw [zw_up_ne1 _ _ _ (by decide)]
        unfold q_isShare at c2
        rw [c2]; decide
      rw [show p_stop mi ml x = .inr (some (.int (mi 1 7)), zw_up mi 1 7 x, ml) by unfold p_stop; rw [if_neg c0, if_neg d1], zh_iR, zh_lR, zh_cR, zh_vI, show q_stop (zw_up mi 1 7 x) x = (zw_up (zw_up mi 1 7 x) 32 0 0 32 16, zw_up (zw_up (zw_up mi 1 7 x) 32 0 0) 32 16 x) by unfold q_stop; rw [if_neg c0, if_neg d2]]
      exact key x (Or.inr (by rw [e]; exact vp_in_nI hj (by omega)))
theorem zA_free {n : Nat} : zl_A_free n (zJ n) := by
  intro mi ml x h
  have hn := zJ_n h
  refine ⟨zJ_in h, ?_⟩
  rcases zJ_is hn (zJ_10 h) (zJ_321 h) x with ⟨c1, c2⟩ | ⟨j, hj, rfl, c1, c2⟩
  · rw [show p_free mi ml x = .inl zt_I from if_pos c1, zh_iL, zh_lL, zh_cL, show q_free mi x = (0, zw_up mi 32 0 1) from if_pos c2]
    exact ⟨fun q => absurd c2 q, zJ_no h zh_kI (by decide)⟩
  · have d1 : ¬ p_isShare mi (nI j) = 0 := by rw [c1]; decide
    have ej : (nI j).toNatClampNeg = j := nI_clamp (by omega)
    have en : zw_up mi 10 j 0 32 1 = nI n := by rw [zw_up_ne1 _ _ _ (by decide)]; exact zJ_321 h
    have d2 : ¬ q_isShare (zw_up mi 10 j 0) (nI j) = 0 := by
      rcases zJ_is (mi := mi) hn (zJ_10 h) en (nI j) with ⟨q, -⟩ | ⟨_, _, _, _, q⟩
      · exact absurd q d1
      · rw [q]; decide
    obtain ⟨c, k1, k2, k3⟩ := h.1.2.1.1 j hj
    rw [show p_free mi ml (nI j) = .inr (some (.int (mi 10 j)), zw_up mi 10 j 0, ml) by unfold p_free; rw [if_neg d1, ej], zh_iR, zh_lR, zh_cR, zh_vI, show q_free (zw_up mi 10 j 0) (nI j) = (mi 36 j, zw_up (zw_up (zw_up mi 10 j 0) 32 0 0) 36 j 0) by unfold q_free; rw [if_neg d2, ej, zw_up_ne1 _ _ _ (by decide), zw_up_ne1 _ _ _ (by decide)]]
    dsimp only
    refine ⟨fun q => zJ_in16 hn en _ q, by rw [zw_up_ne1 _ _ _ (by decide), zw_up_self], zA_out (by rw [k2, k3]), ?_⟩
    have off : ∀ a b, (a ≠ 10 ∨ b ≠ j) → (a ≠ 32 ∨ b ≠ 0) → (a ≠ 36 ∨ b ≠ j) → zw_up (zw_up (zw_up mi 10 j 0) 32 0 0) 36 j 0 a b = mi a b := fun a b h1 h2 h3 => by
      rw [zw_up_off _ _ h3, zw_up_off _ _ h2, zw_up_off _ _ h1]
    have offL : ∀ a b, a ≠ 30 → zw_up ml 30 0 (mi 10 j).toInt64 a b = ml a b := fun a b h1 => zw_up_ne1 _ _ _ h1
    have e10 : zw_up (zw_up (zw_up mi 10 j 0) 32 0 0) 36 j 0 10 j = nI 0 := by rw [zw_up_ne1 _ _ _ (by decide), zw_up_ne1 _ _ _ (by decide), zw_up_self]; rfl
    have e36 : zw_up (zw_up (zw_up mi 10 j 0) 32 0 0) 36 j 0 36 j = nI 0 := by rw [zw_up_self]; rfl
    obtain ⟨hA, ⟨c1, c2, c3, c4⟩, hF⟩ := h.1
    refine ⟨⟨hA.same (fun a b ha => off a b (by omega) (by omega) (by omega)) (fun b => offL 9 b (by omega)) (fun a b ha => off a b (by omega) (by omega) (by omega)) (fun b => offL 35 b (by omega)), ⟨fun i hi => ?_, fun i k hi hk => ?_, fun i hi => ?_, fun k hk => ?_⟩, hF.same (fun a b ha => off a b (by omega) (by omega) (by omega)) (fun a b ha => off a b (by omega) (by omega) (by omega))⟩, zJ_T h (fun a b ha => off a b (by omega) (by omega) (by omega)) (fun a b ha => offL a b (by omega))⟩
    · by_cases e : i = j
      · subst e
        exact ⟨0, by omega, e10, e36⟩
      · rw [off 10 i (by omega) (by omega) (by omega), off 36 i (by omega) (by omega) (by omega)]; exact c1 i hi
    · rw [off 37 _ (by omega) (by omega) (by omega), off 38 _ (by omega) (by omega) (by omega), off 39 _ (by omega) (by omega) (by omega), off (64 + i) _ (by omega) (by omega) (by omega), off (80 + i) _ (by omega) (by omega) (by omega), off (96 + i) _ (by omega) (by omega) (by omega)]; exact c2 i k hi hk
    · by_cases e : i = j
      · subst e
        exact ⟨0, by omega, e36⟩
      · rw [off 36 i (by omega) (by omega) (by omega)]; exact c3 i hi
    · rw [off 38 _ (by omega) (by omega) (by omega), off 39 _ (by omega) (by omega) (by omega)]; exact c4 k hk
theorem zA_share {n : Nat} : zl_A_share n (zJ n) := by
  intro mi ml x st ce t h
  have hn := zJ_n h
  refine ⟨zJ_in h, ?_⟩
  obtain ⟨r, r1, r2, r3, r4⟩ := h.1.1.2.2.1
  rcases zJ_is hn (zJ_10 h) (zJ_321 h) x with ⟨c1, c2⟩ | ⟨j, hj, rfl, c1, c2⟩
  · rw [show p_share mi ml x st ce t = .inl zt_I from if_pos c1, zh_iL, zh_lL, zh_cL, show q_share mi ml x st ce t = (0, zw_up mi 32 0 1, ml) from if_pos c2]
    exact ⟨fun q => absurd c2 q, zJ_no h zh_kI (by decide)⟩
  · have d1 : ¬ p_isShare mi (nI j) = 0 := by rw [c1]; decide
    have d2 : ¬ q_isShare mi (nI j) = 0 := by rw [c2]; decide
    have ej : (nI j).toNatClampNeg = j := nI_clamp (by omega)
    by_cases c3 : p_within st 1 20 = 0
    · rw [show p_share mi ml (nI j) st ce t = .inl zt_A by unfold p_share; rw [if_neg d1, if_pos c3], zh_iL, zh_lL, zh_cL, show q_share mi ml (nI j) st ce t = (0, zw_up mi 32 0 2, ml) by unfold q_share; rw [if_neg d2, if_pos c3]]
      exact ⟨fun q => zJ_in16 hn (zJ_321 h) _ q, zJ_no h zh_kA (by decide)⟩
    · by_cases c4 : p_within ce 1 (nI r) = 0
      · rw [show p_share mi ml (nI j) st ce t = .inl zt_A by unfold p_share; rw [if_neg d1, if_neg c3, r3, if_pos c4], zh_iL, zh_lL, zh_cL, show q_share mi ml (nI j) st ce t = (0, zw_up mi 32 0 2, ml) by unfold q_share; rw [if_neg d2, if_neg c3, r4, if_pos c4]]
        exact ⟨fun q => zJ_in16 hn (zJ_321 h) _ q, zJ_no h zh_kA (by decide)⟩
      · obtain ⟨st', s1, s2, rfl⟩ := p_within_of (N := 20) (by omega) c3
        obtain ⟨ce', s3, s4, rfl⟩ := p_within_of (N := r) (by omega) c4
        obtain ⟨c, k1, k2, k3⟩ := h.1.2.1.1 j hj
        obtain ⟨m1, em1⟩ : ∃ m, m = zw_up (zw_up mi 7 j (nI st')) 8 j (nI ce') := ⟨_, rfl⟩
        have en : m1 32 1 = nI n := by rw [em1, zw_up_ne1 _ _ _ (by decide), zw_up_ne1 _ _ _ (by decide)]; exact zJ_321 h
        have er : m1 32 2 = nI r := by rw [em1, zw_up_ne1 _ _ _ (by decide), zw_up_ne1 _ _ _ (by decide)]; exact r4
        have e10 : m1 10 j = nI c := by rw [em1, zw_up_ne1 _ _ _ (by decide), zw_up_ne1 _ _ _ (by decide)]; exact k2
        have e36 : m1 36 j = nI c := by rw [em1, zw_up_ne1 _ _ _ (by decide), zw_up_ne1 _ _ _ (by decide)]; exact k3
        have d3 : ¬ q_isShare m1 (nI j) = 0 := by
          rcases zJ_is (mi := mi) hn (zJ_10 h) en (nI j) with ⟨q, -⟩ | ⟨_, _, _, _, q⟩
          · exact absurd q d1
          · rw [q]; decide
        rw [show p_share mi ml (nI j) (nI st') (nI ce') t = .inr (some (.int (nI c)), m1, zw_up ml 9 j t) by unfold p_share; rw [if_neg d1, if_neg c3, r3, if_neg c4, ej, ← em1, e10], zh_iR, zh_lR, zh_cR, zh_vI]
        have eq : ∀ l : zw_L, q_share m1 l (nI j) (nI st') (nI ce') t = (nI c, zw_up (zw_up (zw_up m1 32 0 0) 33 j (nI st')) 34 j (nI ce'), zw_up l 35 j t) := fun l => by
          unfold q_share q_share3
          rw [if_neg d3, if_neg c3, er, if_neg c4, ej, zw_up_ne1 _ _ _ (by decide), zw_up_ne1 _ _ _ (by decide), zw_up_ne1 _ _ _ (by decide), e36]
        rw [eq]
        dsimp only
        refine ⟨fun q => zJ_in16 hn en _ q, by rw [zw_up_ne1 _ _ _ (by decide), zw_up_ne1 _ _ _ (by decide), zw_up_self], fun _ => ?_, ?_⟩
        · rw [zw_up_ne1 _ _ _ (by decide)]
          exact zA_out rfl rfl
        have off : ∀ a b, (a ≠ 7 ∨ b ≠ j) → (a ≠ 8 ∨ b ≠ j) → (a ≠ 32 ∨ b ≠ 0) → (a ≠ 33 ∨ b ≠ j) → (a ≠ 34 ∨ b ≠ j) → zw_up (zw_up (zw_up m1 32 0 0) 33 j (nI st')) 34 j (nI ce') a b = mi a b := fun a b h1 h2 h3 h4 h5 => by
          rw [zw_up_off _ _ h5, zw_up_off _ _ h4, zw_up_off _ _ h3, em1, zw_up_off _ _ h2, zw_up_off _ _ h1]
        have offL : ∀ a b, a ≠ 30 → (a ≠ 9 ∨ b ≠ j) → (a ≠ 35 ∨ b ≠ j) → zw_up (zw_up (zw_up ml 9 j t) 30 0 (nI c).toInt64) 35 j t a b = ml a b := fun a b h1 h2 h3 => by
          rw [zw_up_off _ _ h3, zw_up_ne1 _ _ _ h1, zw_up_off _ _ h2]
        have f7 : zw_up (zw_up (zw_up m1 32 0 0) 33 j (nI st')) 34 j (nI ce') 7 j = nI st' := by rw [zw_up_ne1 _ _ _ (by decide), zw_up_ne1 _ _ _ (by decide), zw_up_ne1 _ _ _ (by decide), em1, zw_up_ne1 _ _ _ (by decide), zw_up_self]
        have f8 : zw_up (zw_up (zw_up m1 32 0 0) 33 j (nI st')) 34 j (nI ce') 8 j = nI ce' := by rw [zw_up_ne1 _ _ _ (by decide), zw_up_ne1 _ _ _ (by decide), zw_up_ne1 _ _ _ (by decide), em1, zw_up_self]
        have f33 : zw_up (zw_up (zw_up m1 32 0 0) 33 j (nI st')) 34 j (nI ce') 33 j = nI st' := by rw [zw_up_ne1 _ _ _ (by decide), zw_up_self]
        have f34 : zw_up (zw_up (zw_up m1 32 0 0) 33 j (nI st')) 34 j (nI ce') 34 j = nI ce' := by rw [zw_up_self]
        have f9 : zw_up (zw_up (zw_up ml 9 j t) 30 0 (nI c).toInt64) 35 j t 9 j = t := by rw [zw_up_ne1 _ _ _ (by decide), zw_up_ne1 _ _ _ (by decide), zw_up_self]
        have f35 : zw_up (zw_up (zw_up ml 9 j t) 30 0 (nI c).toInt64) 35 j t 35 j = t := by rw [zw_up_self]
        obtain ⟨⟨n1, ⟨b1, b2⟩, b3, b4, b5, b6, b7⟩, hN, hF⟩ := h.1
        refine ⟨⟨⟨n1, ⟨?_, ?_⟩, ?_, ?_, fun i hi => ?_, fun i hi => ?_, fun i hi => ?_⟩, hN.same hn (fun a b ha => off a b (by omega) (by omega) (by omega) (by omega) (by omega)) (fun a b ha => off a b (by omega) (by omega) (by omega) (by omega) (by omega)), hF.same (fun a b ha => off a b (by omega) (by omega) (by omega) (by omega) (by omega)) (fun a b ha => off a b (by omega) (by omega) (by omega) (by omega) (by omega))⟩, zJ_T h (fun a b ha => off a b (by omega) (by omega) (by omega) (by omega) (by omega)) (fun a b ha => offL a b (by omega) (by omega) (by omega))⟩
        · rw [off 1 0 (by omega) (by omega) (by omega) (by omega) (by omega)]; exact b1
        · rw [off 32 1 (by omega) (by omega) (by omega) (by omega) (by omega)]; exact b2
        · rw [off 1 1 (by omega) (by omega) (by omega) (by omega) (by omega), off 32 2 (by omega) (by omega) (by omega) (by omega) (by omega)]; exact b3
        · rw [off 1 7 (by omega) (by omega) (by omega) (by omega) (by omega), off 32 16 (by omega) (by omega) (by omega) (by omega) (by omega)]; exact b4
        · by_cases e : i = j
          · subst e
            exact ⟨st', s1, s2, f7, f33⟩
          · rw [off 7 i (by omega) (by omega) (by omega) (by omega) (by omega), off 33 i (by omega) (by omega) (by omega) (by omega) (by omega)]; exact b5 i hi
        · by_cases e : i = j
          · subst e
            exact ⟨ce', by omega, f8, f34⟩
          · rw [off 8 i (by omega) (by omega) (by omega) (by omega) (by omega), off 34 i (by omega) (by omega) (by omega) (by omega) (by omega)]; exact b6 i hi
        · by_cases e : i = j
          · subst e
            rw [f9, f35]
          · rw [offL 9 i (by omega) (by omega) (by omega), offL 35 i (by omega) (by omega) (by omega)]; exact b7 i hi
