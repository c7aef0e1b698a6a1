/-! THE CALLS need and failing -/
theorem nI_lt6 {c N : Nat} (hc : c ≤ N) (hN : N ≤ 1000) : (¬ nI c < nI N ∧ nI c = nI N ∧ c = N) ∨ (nI c < nI N ∧ ¬ nI c = nI N ∧ c < N) := by
  by_cases e : c = N
  · subst e
    exact Or.inl ⟨nI_nlt (by omega) (by omega), rfl, rfl⟩
  · exact Or.inr ⟨nI_lt (by omega) (by omega), fun q => e ((nI_eq (by omega) (by omega)).mp q), by omega⟩
theorem zA_need {n : Nat} : zl_A_need n (zJ n) := by
  intro mi ml x s0 o m0 h
  have hn := zJ_n h
  have h16 : ∀ {qi : zw_I}, qi 32 1 = nI n → ¬ q_isShare qi x = 0 → vp_in x 16 := fun e q => zJ_in16 hn e _ q
  have hix : ∀ (qi : zw_I), qi 32 1 = nI n → (∀ i : Nat, i < n → ∃ c : Nat, c ≤ 6 ∧ qi 36 i = nI c) → ¬ q_isShare qi x = 0 → ¬ qi 36 x.toNatClampNeg = 6 → vp_in (6 * x + qi 36 x.toNatClampNeg) 96 := fun qi e hq q1 q2 => by
    rcases zJ_is (mi := mi) hn (zJ_10 h) e x with ⟨-, q⟩ | ⟨j, hj, rfl, -, -⟩
    · exact absurd q q1
    · rw [nI_clamp (by omega)] at q2 ⊢
      obtain ⟨c, k1, k2⟩ := hq j hj
      rw [k2] at q2 ⊢
      have : ¬ c = 6 := fun e => q2 (by rw [e]; rfl)
      rw [show (6 : Int32) = nI 6 from rfl, pk_mul, nI_add]
      exact vp_in_nI (by omega) (by omega)
  have h6 : ∀ i : Nat, i < n → ∃ c : Nat, c ≤ 6 ∧ mi 36 i = nI c := fun i hi => by
    obtain ⟨c, k1, -, k3⟩ := h.1.2.1.1 i hi
    exact ⟨c, k1, k3⟩
  refine ⟨zJ_in h, fun q1 q2 => ?_, ?_⟩
  · rcases zJ_is hn (zJ_10 h) (zJ_321 h) x with ⟨q, -⟩ | ⟨j, hj, rfl, -, -⟩
    · exact absurd q q1
    · rw [nI_clamp (by omega)] at q2 ⊢
      obtain ⟨c, k1, k2, -⟩ := h.1.2.1.1 j hj
      rw [k2] at q2 ⊢
      rw [show (6 : Int32) = nI 6 from rfl, nI_ltI (by omega) (by omega)] at q2
      exact vp_in_nI q2 (by omega)
  have no : ∀ {E : String} {k : Int32}, zh_k E = k → ¬ k = 0 → p_need mi ml x s0 o m0 = .inl E → q_need mi x s0 o m0 = (0, zw_up mi 32 0 k) → (¬ q_isShare (zh_i mi (p_need mi ml x s0 o m0)) x = 0 → vp_in x 16) ∧ (¬ q_isShare (zh_i mi (p_need mi ml x s0 o m0)) x = 0 → ¬ (zh_i mi (p_need mi ml x s0 o m0)) 36 x.toNatClampNeg = 6 → vp_in (6 * x + (zh_i mi (p_need mi ml x s0 o m0)) 36 x.toNatClampNeg) 96) ∧ ((q_need (zh_i mi (p_need mi ml x s0 o m0)) x s0 o m0).2) 32 0 = zh_c zh_k (p_need mi ml x s0 o m0) ∧ (zh_c zh_k (p_need mi ml x s0 o m0) = 0 → (zh_l ml (p_need mi ml x s0 o m0)) 30 (0 : Int32).toNatClampNeg = ((q_need (zh_i mi (p_need mi ml x s0 o m0)) x s0 o m0).1).toInt64) ∧ zJ n ((q_need (zh_i mi (p_need mi ml x s0 o m0)) x s0 o m0).2) (zh_l ml (p_need mi ml x s0 o m0)) := fun {E k} e1 e2 e3 e4 => by
    rw [e3, zh_iL, zh_lL, zh_cL, e4]
    exact ⟨h16 (zJ_321 h), hix mi (zJ_321 h) h6, zJ_no h e1 e2⟩
  rcases zJ_is hn (zJ_10 h) (zJ_321 h) x with ⟨c1, c2⟩ | ⟨j, hj, ex, c1, c2⟩
  · exact no zh_kI (by decide) (if_pos c1) (if_pos c2)
  have d1 : ¬ p_isShare mi x = 0 := by rw [c1]; decide
  have d2 : ¬ q_isShare mi x = 0 := by rw [c2]; decide
  rcases zJ_is hn (zJ_10 h) (zJ_321 h) o with ⟨c3, c4⟩ | ⟨k, hk, eo, c3, c4⟩
  · exact no zh_kI (by decide) (by unfold p_need; rw [if_neg d1, if_pos c3]) (by unfold q_need; rw [if_neg d2, if_pos c4])
  have d3 : ¬ p_isShare mi o = 0 := by rw [c3]; decide
  have d4 : ¬ q_isShare mi o = 0 := by rw [c4]; decide
  by_cases c5 : p_within s0 0 19 = 0
  · exact no zh_kA (by decide) (by unfold p_need; rw [if_neg d1, if_neg d3, if_pos c5]) (by unfold q_need; rw [if_neg d2, if_neg d4, if_pos c5])
  by_cases c6 : p_within m0 1 20 = 0
  · exact no zh_kA (by decide) (by unfold p_need; rw [if_neg d1, if_neg d3, if_neg c5, if_pos c6]) (by unfold q_need; rw [if_neg d2, if_neg d4, if_neg c5, if_pos c6])
  by_cases c7 : o = x
  · exact no zh_kA (by decide) (by unfold p_need; rw [if_neg d1, if_neg d3, if_neg c5, if_neg c6, if_pos c7]) (by unfold q_need; rw [if_neg d2, if_neg d4, if_neg c5, if_neg c6, if_pos c7])
  have ej : x.toNatClampNeg = j := by rw [ex]; exact nI_clamp (by omega)
  obtain ⟨c, k1, k2, k3⟩ := h.1.2.1.1 j hj
  rcases nI_lt6 k1 (by omega) with ⟨q1, q2, q3⟩ | ⟨q1, q2, q3⟩
  · have q1 : ¬ nI c < 6 := q1
    have q2 : nI c = 6 := q2
    exact no zh_kU (by decide) (by unfold p_need; rw [if_neg d1, if_neg d3, if_neg c5, if_neg c6, if_neg c7, ej, k2, if_neg q1]) (by unfold q_need; rw [if_neg d2, if_neg d4, if_neg c5, if_neg c6, if_neg c7, ej, k3, if_pos q2])
  have q1 : nI c < 6 := q1
  have q2 : ¬ nI c = 6 := q2
  obtain ⟨m0', s1, s2, em0⟩ := p_within_of (N := 20) (by omega) c6
  have ec : (nI c).toNatClampNeg = c := nI_clamp (by omega)
  obtain ⟨m1, em1⟩ : ∃ m, m = p_nadd x s0 o m0 mi := ⟨_, rfl⟩
  have em2 : m1 = zw_up (zw_up (zw_up (zw_up mi (64 + j) c s0) (80 + j) c o) (96 + j) c m0) 10 j (nI (c + 1)) := by
    rw [em1]; unfold p_nadd p_nadd3; rw [ej, k2, ec, nI_1]
  have f10 : m1 10 j = nI (c + 1) := by rw [em2, zw_up_self]
  have off1 : ∀ a b, (a ≠ 10 ∨ b ≠ j) → (a ≠ 64 + j ∨ b ≠ c) → (a ≠ 80 + j ∨ b ≠ c) → (a ≠ 96 + j ∨ b ≠ c) → m1 a b = mi a b := fun a b h1 h2 h3 h4 => by
    rw [em2, zw_up_off _ _ h1, zw_up_off _ _ h4, zw_up_off _ _ h3, zw_up_off _ _ h2]
  have en : m1 32 1 = nI n := by rw [off1 32 1 (by omega) (by omega) (by omega) (by omega)]; exact zJ_321 h
  have e36 : m1 36 j = nI c := by rw [off1 36 j (by omega) (by omega) (by omega) (by omega)]; exact k3
  have d5 : ¬ q_isShare m1 x = 0 := by
    rcases zJ_is (mi := mi) hn (zJ_10 h) en x with ⟨q, -⟩ | ⟨_, _, _, _, q⟩
    · exact absurd q d1
    · rw [q]; decide
  have d6 : ¬ q_isShare m1 o = 0 := by
    rcases zJ_is (mi := mi) hn (zJ_10 h) en o with ⟨q, -⟩ | ⟨_, _, _, _, q⟩
    · exact absurd q d3
    · rw [q]; decide
  have ea : (6 * x + nI c).toNatClampNeg = 6 * j + c := by rw [ex]; exact zr_ix (by omega) (by omega)
  have eN : q_need0 x s0 o m0 (zw_up m1 32 0 0) = zw_up (zw_up (zw_up (zw_up (zw_up m1 32 0 0) 37 (6 * j + c) s0) 38 (6 * j + c) o) 39 (6 * j + c) m0) 36 j (nI (c + 1)) := by
    have e0 : zw_up m1 32 0 0 36 j = nI c := by rw [zw_up_ne1 _ _ _ (by decide)]; exact e36
    unfold q_need0 q_need1 q_need2
    rw [ej, e0, ea, zw_up_ne1 _ _ _ (by decide), zw_up_ne1 _ _ _ (by decide), zw_up_ne1 _ _ _ (by decide), e0, nI_1]
  rw [show p_need mi ml x s0 o m0 = .inr (some (.int (nI (c + 1))), m1, ml) by unfold p_need; rw [if_neg d1, if_neg d3, if_neg c5, if_neg c6, if_neg c7, ej, k2, if_pos q1, ← em1, f10], zh_iR, zh_lR, zh_cR, zh_vI]
  rw [show q_need m1 x s0 o m0 = (nI (c + 1), zw_up (zw_up (zw_up (zw_up (zw_up m1 32 0 0) 37 (6 * j + c) s0) 38 (6 * j + c) o) 39 (6 * j + c) m0) 36 j (nI (c + 1))) by unfold q_need; rw [if_neg d5, if_neg d6, if_neg c5, if_neg c6, if_neg c7, ej, e36, if_neg q2, eN, zw_up_self]]
  have off : ∀ a b, (a ≠ 10 ∨ b ≠ j) → (a ≠ 64 + j ∨ b ≠ c) → (a ≠ 80 + j ∨ b ≠ c) → (a ≠ 96 + j ∨ b ≠ c) → (a ≠ 32 ∨ b ≠ 0) → (a ≠ 36 ∨ b ≠ j) → (a ≠ 37 ∨ b ≠ 6 * j + c) → (a ≠ 38 ∨ b ≠ 6 * j + c) → (a ≠ 39 ∨ b ≠ 6 * j + c) → zw_up (zw_up (zw_up (zw_up (zw_up m1 32 0 0) 37 (6 * j + c) s0) 38 (6 * j + c) o) 39 (6 * j + c) m0) 36 j (nI (c + 1)) a b = mi a b := fun a b h1 h2 h3 h4 h5 h6 h7 h8 h9 => by
    rw [zw_up_off _ _ h6, zw_up_off _ _ h9, zw_up_off _ _ h8, zw_up_off _ _ h7, zw_up_off _ _ h5, off1 a b h1 h2 h3 h4]
  have f10' : zw_up (zw_up (zw_up (zw_up (zw_up m1 32 0 0) 37 (6 * j + c) s0) 38 (6 * j + c) o) 39 (6 * j + c) m0) 36 j (nI (c + 1)) 10 j = nI (c + 1) := by
    rw [zw_up_ne1 _ _ _ (by decide), zw_up_ne1 _ _ _ (by decide), zw_up_ne1 _ _ _ (by decide), zw_up_ne1 _ _ _ (by decide), zw_up_ne1 _ _ _ (by decide), f10]
  have f36 : zw_up (zw_up (zw_up (zw_up (zw_up m1 32 0 0) 37 (6 * j + c) s0) 38 (6 * j + c) o) 39 (6 * j + c) m0) 36 j (nI (c + 1)) 36 j = nI (c + 1) := zw_up_self _ _ _ _
  have f37 : zw_up (zw_up (zw_up (zw_up (zw_up m1 32 0 0) 37 (6 * j + c) s0) 38 (6 * j + c) o) 39 (6 * j + c) m0) 36 j (nI (c + 1)) 37 (6 * j + c) = s0 := by
    rw [zw_up_ne1 _ _ _ (by decide), zw_up_ne1 _ _ _ (by decide), zw_up_ne1 _ _ _ (by decide), zw_up_self]
  have f38 : zw_up (zw_up (zw_up (zw_up (zw_up m1 32 0 0) 37 (6 * j + c) s0) 38 (6 * j + c) o) 39 (6 * j + c) m0) 36 j (nI (c + 1)) 38 (6 * j + c) = o := by
    rw [zw_up_ne1 _ _ _ (by decide), zw_up_ne1 _ _ _ (by decide), zw_up_self]
  have f39 : zw_up (zw_up (zw_up (zw_up (zw_up m1 32 0 0) 37 (6 * j + c) s0) 38 (6 * j + c) o) 39 (6 * j + c) m0) 36 j (nI (c + 1)) 39 (6 * j + c) = m0 := by
    rw [zw_up_ne1 _ _ _ (by decide), zw_up_self]
  have lift : ∀ a b, 64 ≤ a → zw_up (zw_up (zw_up (zw_up (zw_up m1 32 0 0) 37 (6 * j + c) s0) 38 (6 * j + c) o) 39 (6 * j + c) m0) 36 j (nI (c + 1)) a b = m1 a b := fun a b ha => by
    rw [zw_up_ne1 _ _ _ (by omega), zw_up_ne1 _ _ _ (by omega), zw_up_ne1 _ _ _ (by omega), zw_up_ne1 _ _ _ (by omega), zw_up_ne1 _ _ _ (by omega)]
  have f64 : m1 (64 + j) c = s0 := by rw [em2, zw_up_ne1 _ _ _ (by omega), zw_up_ne1 _ _ _ (by omega), zw_up_ne1 _ _ _ (by omega), zw_up_self]
  have f80 : m1 (80 + j) c = o := by rw [em2, zw_up_ne1 _ _ _ (by omega), zw_up_ne1 _ _ _ (by omega), zw_up_self]
  have f96 : m1 (96 + j) c = m0 := by rw [em2, zw_up_ne1 _ _ _ (by omega), zw_up_self]
  have f320 : zw_up (zw_up (zw_up (zw_up (zw_up m1 32 0 0) 37 (6 * j + c) s0) 38 (6 * j + c) o) 39 (6 * j + c) m0) 36 j (nI (c + 1)) 32 0 = 0 := by
    rw [zw_up_ne1 _ _ _ (by decide), zw_up_ne1 _ _ _ (by decide), zw_up_ne1 _ _ _ (by decide), zw_up_ne1 _ _ _ (by decide), zw_up_self]
  have h6' : ∀ i : Nat, i < n → ∃ c : Nat, c ≤ 6 ∧ m1 36 i = nI c := fun i hi => by
    rw [off1 36 i (by omega) (by omega) (by omega) (by omega)]; exact h6 i hi
  dsimp only
  obtain ⟨M, eM⟩ : ∃ m, m = zw_up (zw_up (zw_up (zw_up (zw_up m1 32 0 0) 37 (6 * j + c) s0) 38 (6 * j + c) o) 39 (6 * j + c) m0) 36 j (nI (c + 1)) := ⟨_, rfl⟩
  rw [← eM] at off f10' f36 f37 f38 f39 f320 lift ⊢
  refine ⟨h16 en, hix m1 en h6', f320, zA_out rfl, ?_⟩
  have offL : ∀ a b, a ≠ 30 → zw_up ml 30 0 (nI (c + 1)).toInt64 a b = ml a b := fun a b h1 => zw_up_ne1 _ _ _ h1
  obtain ⟨hA, ⟨c1', c2', c3', c4'⟩, hF⟩ := h.1
  have vo : vp_in o n := by rw [eo]; exact vp_in_nI hk (by omega)
  have vo16 : vp_in o 16 := by rw [eo]; exact vp_in_nI (by omega) (by omega)
  have vm : vp_in m0 21 := by rw [em0]; exact vp_in_nI (by omega) (by omega)
  refine ⟨⟨hA.same (fun a b ha => off a b (by omega) (by omega) (by omega) (by omega) (by omega) (by omega) (by omega) (by omega) (by omega)) (fun b => offL 9 b (by omega)) (fun a b ha => off a b (by omega) (by omega) (by omega) (by omega) (by omega) (by omega) (by omega) (by omega) (by omega)) (fun b => offL 35 b (by omega)), ⟨fun i hi => ?_, fun i u hi hu => ?_, fun i hi => ?_, fun u hu => ?_⟩, hF.same (fun a b ha => off a b (by omega) (by omega) (by omega) (by omega) (by omega) (by omega) (by omega) (by omega) (by omega)) (fun a b ha => off a b (by omega) (by omega) (by omega) (by omega) (by omega) (by omega) (by omega) (by omega) (by omega))⟩, zJ_T h (fun a b ha => off a b (by omega) (by omega) (by omega) (by omega) (by omega) (by omega) (by omega) (by omega) (by omega)) (fun a b ha => offL a b (by omega))⟩
  · by_cases e : i = j
    · subst e
      exact ⟨c + 1, by omega, f10', f36⟩
    · rw [off 10 i (by omega) (by omega) (by omega) (by omega) (by omega) (by omega) (by omega) (by omega) (by omega), off 36 i (by omega) (by omega) (by omega) (by omega) (by omega) (by omega) (by omega) (by omega) (by omega)]; exact c1' i hi
  · by_cases e : i = j ∧ u = c
    · obtain ⟨rfl, rfl⟩ := e
      rw [f37, f38, f39, lift _ _ (by omega), lift _ _ (by omega), lift _ _ (by omega), f64, f80, f96]
      exact ⟨rfl, rfl, rfl, vo, vm⟩
    · rw [off 37 _ (by omega) (by omega) (by omega) (by omega) (by omega) (by omega) (by omega) (by omega) (by omega), off 38 _ (by omega) (by omega) (by omega) (by omega) (by omega) (by omega) (by omega) (by omega) (by omega), off 39 _ (by omega) (by omega) (by omega) (by omega) (by omega) (by omega) (by omega) (by omega) (by omega), off (64 + i) u (by omega) (by omega) (by omega) (by omega) (by omega) (by omega) (by omega) (by omega) (by omega), off (80 + i) u (by omega) (by omega) (by omega) (by omega) (by omega) (by omega) (by omega) (by omega) (by omega), off (96 + i) u (by omega) (by omega) (by omega) (by omega) (by omega) (by omega) (by omega) (by omega) (by omega)]
      exact c2' i u hi hu
  · by_cases e : i = j
    · subst e
      exact ⟨c + 1, by omega, f36⟩
    · rw [off 36 i (by omega) (by omega) (by omega) (by omega) (by omega) (by omega) (by omega) (by omega) (by omega)]; exact c3' i hi
  · by_cases e : u = 6 * j + c
    · subst e
      rw [f38, f39]
      exact ⟨vo16, vm⟩
    · rw [off 38 u (by omega) (by omega) (by omega) (by omega) (by omega) (by omega) (by omega) (by omega) (by omega), off 39 u (by omega) (by omega) (by omega) (by omega) (by omega) (by omega) (by omega) (by omega) (by omega)]; exact c4' u hu
theorem zA_failing {n : Nat} : zl_A_failing n (zJ n) := by
  intro mi ml w x s0 t h
  have hn := zJ_n h
  obtain ⟨c, k1, k2, k3⟩ := h.1.2.2.1
  have h8 : ∀ {y : Int32}, y = nI c → ¬ y = 8 → vp_in y 8 := fun {y} e q => by
    rw [e] at q ⊢
    have : ¬ c = 8 := fun e => q (by rw [e]; rfl)
    exact vp_in_nI (by omega) (by omega)
  refine ⟨fun q => ?_, ?_⟩
  · rw [k2] at q ⊢
    rw [show (8 : Int32) = nI 8 from rfl, nI_ltI (by omega) (by omega)] at q
    exact vp_in_nI q (by omega)
  have no : ∀ {E : String} {k : Int32}, zh_k E = k → ¬ k = 0 → p_failing mi ml w x s0 t = .inl E → q_failing mi w x s0 t = (0, zw_up mi 32 0 k) → (¬ (zh_i mi (p_failing mi ml w x s0 t)) 32 15 = 8 → vp_in ((zh_i mi (p_failing mi ml w x s0 t)) 32 15) 8) ∧ ((q_failing (zh_i mi (p_failing mi ml w x s0 t)) w x s0 t).2) 32 0 = zh_c zh_k (p_failing mi ml w x s0 t) ∧ (zh_c zh_k (p_failing mi ml w x s0 t) = 0 → (zh_l ml (p_failing mi ml w x s0 t)) 30 (0 : Int32).toNatClampNeg = ((q_failing (zh_i mi (p_failing mi ml w x s0 t)) w x s0 t).1).toInt64) ∧ zJ n ((q_failing (zh_i mi (p_failing mi ml w x s0 t)) w x s0 t).2) (zh_l ml (p_failing mi ml w x s0 t)) := fun {E k} e1 e2 e3 e4 => by
    rw [e3, zh_iL, zh_lL, zh_cL, e4]
    exact ⟨h8 k3, zJ_no h e1 e2⟩
  rcases zJ_is hn (zJ_10 h) (zJ_321 h) x with ⟨c1, c2⟩ | ⟨j, hj, ex, c1, c2⟩
  · exact no zh_kI (by decide) (if_pos c1) (if_pos c2)
  have d1 : ¬ p_isShare mi x = 0 := by rw [c1]; decide
  have d2 : ¬ q_isShare mi x = 0 := by rw [c2]; decide
  by_cases c3 : p_within w 0 15 = 0
  · exact no zh_kA (by decide) (by unfold p_failing; rw [if_neg d1, if_pos c3]) (by unfold q_failing; rw [if_neg d2, if_pos c3])
  by_cases c5 : p_within s0 0 19 = 0
  · exact no zh_kA (by decide) (by unfold p_failing; rw [if_neg d1, if_neg c3, if_pos c5]) (by unfold q_failing; rw [if_neg d2, if_neg c3, if_pos c5])
  by_cases c6 : p_within t 1 9 = 0
  · exact no zh_kA (by decide) (by unfold p_failing; rw [if_neg d1, if_neg c3, if_neg c5, if_pos c6]) (by unfold q_failing; rw [if_neg d2, if_neg c3, if_neg c5, if_pos c6])
  rcases nI_lt6 k1 (by omega) with ⟨q1, q2, q3⟩ | ⟨q1, q2, q3⟩
  · have q1 : ¬ nI c < 8 := q1
    have q2 : nI c = 8 := q2
    exact no zh_kU (by decide) (by unfold p_failing; rw [if_neg d1, if_neg c3, if_neg c5, if_neg c6, k2, if_neg q1]) (by unfold q_failing; rw [if_neg d2, if_neg c3, if_neg c5, if_neg c6, k3, if_pos q2])
  have q1 : nI c < 8 := q1
  have q2 : ¬ nI c = 8 := q2
  have ec : (nI c).toNatClampNeg = c := nI_clamp (by omega)
  obtain ⟨m1, em1⟩ : ∃ m, m = p_fadd w x s0 t mi := ⟨_, rfl⟩
  have em2 : m1 = zw_up (zw_up (zw_up (zw_up (zw_up mi 14 c w) 15 c x) 16 c s0) 17 c t) 3 5 (nI (c + 1)) := by
    have e2 : zw_up mi 14 c w 3 5 = nI c := by rw [zw_up_ne1 _ _ _ (by decide)]; exact k2
    have e3 : zw_up (zw_up mi 14 c w) 15 c x 3 5 = nI c := by rw [zw_up_ne1 _ _ _ (by decide)]; exact e2
    have e4 : zw_up (zw_up (zw_up mi 14 c w) 15 c x) 16 c s0 3 5 = nI c := by rw [zw_up_ne1 _ _ _ (by decide)]; exact e3
    have e5 : zw_up (zw_up (zw_up (zw_up mi 14 c w) 15 c x) 16 c s0) 17 c t 3 5 = nI c := by rw [zw_up_ne1 _ _ _ (by decide)]; exact e4
    rw [em1]; unfold p_fadd p_fadd2 p_fadd3 p_fadd4 p_fadd5
    rw [k2, ec, e2, ec, e3, ec, e4, ec, e5, nI_1]
  have f35 : m1 3 5 = nI (c + 1) := by rw [em2, zw_up_self]
  have off1 : ∀ a b, (a ≠ 3 ∨ b ≠ 5) → (a < 14 ∨ 17 < a ∨ b ≠ c) → m1 a b = mi a b := fun a b h1 h2 => by
    rw [em2, zw_up_off _ _ h1, zw_up_off _ _ (by omega), zw_up_off _ _ (by omega), zw_up_off _ _ (by omega), zw_up_off _ _ (by omega)]
  have en : m1 32 1 = nI n := by rw [off1 32 1 (by omega) (by omega)]; exact zJ_321 h
  have e15 : m1 32 15 = nI c := by rw [off1 32 15 (by omega) (by omega)]; exact k3
  have d5 : ¬ q_isShare m1 x = 0 := by
    rcases zJ_is (mi := mi) hn (zJ_10 h) en x with ⟨q, -⟩ | ⟨_, _, _, _, q⟩
    · exact absurd q d1
    · rw [q]; decide
  have eN : q_fail1 w x s0 t (zw_up m1 32 0 0) = zw_up (zw_up (zw_up (zw_up (zw_up (zw_up m1 32 0 0) 40 c w) 41 c x) 42 c s0) 43 c t) 32 15 (nI (c + 1)) := by
    have e1 : zw_up m1 32 0 0 32 15 = nI c := by rw [zw_up_ne2 _ _ _ (by decide)]; exact e15
    have e2 : zw_up (zw_up m1 32 0 0) 40 c w 32 15 = nI c := by rw [zw_up_ne1 _ _ _ (by decide)]; exact e1
    have e3 : zw_up (zw_up (zw_up m1 32 0 0) 40 c w) 41 c x 32 15 = nI c := by rw [zw_up_ne1 _ _ _ (by decide)]; exact e2
    have e4 : zw_up (zw_up (zw_up (zw_up m1 32 0 0) 40 c w) 41 c x) 42 c s0 32 15 = nI c := by rw [zw_up_ne1 _ _ _ (by decide)]; exact e3
    have e5 : zw_up (zw_up (zw_up (zw_up (zw_up m1 32 0 0) 40 c w) 41 c x) 42 c s0) 43 c t 32 15 = nI c := by rw [zw_up_ne1 _ _ _ (by decide)]; exact e4
    unfold q_fail1 q_fail2 q_fail3 q_fail4 q_fail5
    rw [e1, ec, e2, ec, e3, ec, e4, ec, e5, nI_1]
  rw [show p_failing mi ml w x s0 t = .inr (some (.int (nI (c + 1))), m1, ml) by unfold p_failing; rw [if_neg d1, if_neg c3, if_neg c5, if_neg c6, k2, if_pos q1, ← em1, f35], zh_iR, zh_lR, zh_cR, zh_vI]
  rw [show q_failing m1 w x s0 t = (nI (c + 1), zw_up (zw_up (zw_up (zw_up (zw_up (zw_up m1 32 0 0) 40 c w) 41 c x) 42 c s0) 43 c t) 32 15 (nI (c + 1))) by unfold q_failing; rw [if_neg d5, if_neg c3, if_neg c5, if_neg c6, e15, if_neg q2, eN, zw_up_self]]
  dsimp only
  obtain ⟨M, eM⟩ : ∃ m, m = zw_up (zw_up (zw_up (zw_up (zw_up (zw_up m1 32 0 0) 40 c w) 41 c x) 42 c s0) 43 c t) 32 15 (nI (c + 1)) := ⟨_, rfl⟩
  have off : ∀ a b, (a ≠ 3 ∨ b ≠ 5) → (a < 14 ∨ 17 < a ∨ b ≠ c) → (a ≠ 32 ∨ (b ≠ 0 ∧ b ≠ 15)) → (a < 40 ∨ 43 < a ∨ b ≠ c) → M a b = mi a b := fun a b h1 h2 h3 h4 => by
    rw [eM, zw_up_off _ _ (by omega), zw_up_off _ _ (by omega), zw_up_off _ _ (by omega), zw_up_off _ _ (by omega), zw_up_off _ _ (by omega), zw_up_off _ _ (by omega), off1 a b h1 h2]
  have g35 : M 3 5 = nI (c + 1) := by rw [eM, zw_up_ne1 _ _ _ (by decide), zw_up_ne1 _ _ _ (by decide), zw_up_ne1 _ _ _ (by decide), zw_up_ne1 _ _ _ (by decide), zw_up_ne1 _ _ _ (by decide), zw_up_ne1 _ _ _ (by decide), f35]
  have g15 : M 32 15 = nI (c + 1) := by rw [eM, zw_up_self]
  have g320 : M 32 0 = 0 := by rw [eM, zw_up_ne2 _ _ _ (by decide), zw_up_ne1 _ _ _ (by decide), zw_up_ne1 _ _ _ (by decide), zw_up_ne1 _ _ _ (by decide), zw_up_ne1 _ _ _ (by decide), zw_up_self]
  have lift : ∀ a b, 14 ≤ a → a ≤ 17 → M a b = m1 a b := fun a b h1 h2 => by
    rw [eM, zw_up_ne1 _ _ _ (by omega), zw_up_ne1 _ _ _ (by omega), zw_up_ne1 _ _ _ (by omega), zw_up_ne1 _ _ _ (by omega), zw_up_ne1 _ _ _ (by omega), zw_up_ne1 _ _ _ (by omega)]
  have x14 : m1 14 c = w := by rw [em2, zw_up_ne1 _ _ _ (by decide), zw_up_ne1 _ _ _ (by decide), zw_up_ne1 _ _ _ (by decide), zw_up_ne1 _ _ _ (by decide), zw_up_self]
  have x15 : m1 15 c = x := by rw [em2, zw_up_ne1 _ _ _ (by decide), zw_up_ne1 _ _ _ (by decide), zw_up_ne1 _ _ _ (by decide), zw_up_self]
  have x16 : m1 16 c = s0 := by rw [em2, zw_up_ne1 _ _ _ (by decide), zw_up_ne1 _ _ _ (by decide), zw_up_self]
  have x17 : m1 17 c = t := by rw [em2, zw_up_ne1 _ _ _ (by decide), zw_up_self]
  have x40 : M 40 c = w := by rw [eM, zw_up_ne1 _ _ _ (by decide), zw_up_ne1 _ _ _ (by decide), zw_up_ne1 _ _ _ (by decide), zw_up_ne1 _ _ _ (by decide), zw_up_self]
  have x41 : M 41 c = x := by rw [eM, zw_up_ne1 _ _ _ (by decide), zw_up_ne1 _ _ _ (by decide), zw_up_ne1 _ _ _ (by decide), zw_up_self]
  have x42 : M 42 c = s0 := by rw [eM, zw_up_ne1 _ _ _ (by decide), zw_up_ne1 _ _ _ (by decide), zw_up_self]
  have x43 : M 43 c = t := by rw [eM, zw_up_ne1 _ _ _ (by decide), zw_up_self]
  rw [← eM]
  refine ⟨h8 e15, g320, zA_out rfl, ?_⟩
  have offL : ∀ a b, a ≠ 30 → zw_up ml 30 0 (nI (c + 1)).toInt64 a b = ml a b := fun a b h1 => zw_up_ne1 _ _ _ h1
  obtain ⟨hA, hN, -, hd⟩ := h.1
  refine ⟨⟨hA.same (fun a b ha => off a b (by omega) (by omega) (by omega) (by omega)) (fun b => offL 9 b (by omega)) (fun a b ha => off a b (by omega) (by omega) (by omega) (by omega)) (fun b => offL 35 b (by omega)), hN.same hn (fun a b ha => off a b (by omega) (by omega) (by omega) (by omega)) (fun a b ha => off a b (by omega) (by omega) (by omega) (by omega)), ⟨c + 1, by omega, g35, g15⟩, fun k hk => ?_⟩, zJ_T h (fun a b ha => off a b (by omega) (by omega) (by omega) (by omega)) (fun a b ha => offL a b (by omega))⟩
  by_cases e : k = c
  · subst e
    rw [x40, x41, x42, x43, lift 14 _ (by omega) (by omega), lift 15 _ (by omega) (by omega), lift 16 _ (by omega) (by omega), lift 17 _ (by omega) (by omega), x14, x15, x16, x17]
    exact ⟨rfl, rfl, rfl, rfl⟩
  · rw [off 40 k (by omega) (by omega) (by omega) (by omega), off 41 k (by omega) (by omega) (by omega) (by omega), off 42 k (by omega) (by omega) (by omega) (by omega), off 43 k (by omega) (by omega) (by omega) (by omega), off 14 k (by omega) (by omega) (by omega) (by omega), off 15 k (by omega) (by omega) (by omega) (by omega), off 16 k (by omega) (by omega) (by omega) (by omega), off 17 k (by omega) (by omega) (by omega) (by omega)]
    exact hd k hk
