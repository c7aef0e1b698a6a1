def zj_T (n : Nat) (mi : zw_I) (ml : zw_L) (qi : zw_I) (ql : zw_L) : Prop := zj_V1 n ml ql ∧ zj_R n mi qi ∧ zj_O n mi ml qi ql ∧ qi 32 35 = mi 6 2 ∧ zi_L n mi ∧ zi_C n mi
theorem zj_T.same {n : Nat} {mi mi' qi qi' : zw_I} {ml ml' ql ql' : zw_L} (h : zj_T n mi ml qi ql) (hx : ∀ a b, (4 ≤ a ∧ a ≤ 6) ∨ (18 ≤ a ∧ a ≤ 29) ∨ 128 ≤ a → mi' a b = mi a b) (hxl : ∀ a b, a = 21 ∨ 112 ≤ a → ml' a b = ml a b) (hq : ∀ a b, (a = 32 ∧ 29 ≤ b) ∨ (44 ≤ a ∧ a ≤ 53) → qi' a b = qi a b) (hql : ∀ a b, a = 46 ∨ a = 47 → ql' a b = ql a b) : zj_T n mi' ml' qi' ql' := by
  obtain ⟨hV, ⟨⟨f, r1, r2, r3, r4⟩, r5, r6, ⟨r7, r8, r9, r10, r11⟩, r12, r13⟩, hO, h35, ⟨l1, l2, l3⟩, c1, c2, c3⟩ := h
  refine ⟨fun i j hi hj0 hj => ?_, ⟨⟨f, r1, ?_, ?_, fun k hk => ?_⟩, fun i hi => ?_, fun i j hi hj => ?_, ⟨?_, ?_, ?_, ?_, ?_⟩, fun k hk => ?_, fun k hk => ?_⟩, fun i hi => ?_, ?_, ⟨?_, ?_, fun i hi => ?_⟩, ?_, fun k hk => ?_, fun v hv => ?_⟩
  · rw [hql 47 _ (by omega), hxl (112 + i) _ (by omega)]; exact hV i j hi hj0 hj
  · rw [hx 5 8 (by omega)]; exact r2
  · rw [hq 32 29 (by omega)]; exact r3
  · rw [hq 51 k (by omega), hx 27 k (by omega)]; exact r4 k hk
  · rw [hq 52 i (by omega), hx 25 i (by omega)]; exact r5 i hi
  · rw [hq 53 _ (by omega), hx (128 + i) _ (by omega)]; exact r6 i j hi hj
  · rw [hq 32 30 (by omega), hx 5 11 (by omega)]; exact r7
  · rw [hq 32 31 (by omega), hx 5 12 (by omega)]; exact r8
  · rw [hq 32 32 (by omega), hx 5 13 (by omega)]; exact r9
  · rw [hq 32 33 (by omega), hx 5 14 (by omega)]; exact r10
  · rw [hq 32 34 (by omega), hx 5 10 (by omega)]; exact r11
  · rw [hq 44 k (by omega), hx 18 k (by omega)]; exact r12 k hk
  · rw [hq 50 k (by omega)]; exact r13 k hk
  · rw [hq 45 i (by omega), hx 20 i (by omega), hql 46 i (by omega), hxl 21 i (by omega)]; exact hO i hi
  · rw [hq 32 35 (by omega), hx 6 2 (by omega)]; exact h35
  · rw [hx 4 1 (by omega)]; exact l1
  · rw [hx 4 2 (by omega)]; exact l2
  · rw [hx 22 i (by omega)]; exact l3 i hi
  · rw [hx 6 2 (by omega)]; exact c1
  · rw [hx 28 k (by omega)]; exact c2 k hk
  · rw [hx 29 v (by omega)]; exact c3 v hv
theorem zj.same {n : Nat} {mi mi' qi qi' : zw_I} {ml ml' ql ql' : zw_L} (h : zj n mi ml qi ql) (hx : ∀ a b, a < 30 ∨ 53 < a → mi' a b = mi a b) (hxl : ∀ a b, a < 30 ∨ 53 < a → ml' a b = ml a b) (hq : ∀ a b, 32 ≤ a → a ≤ 53 → (a ≠ 32 ∨ b ≠ 0) → qi' a b = qi a b) (hql : ∀ a b, 32 ≤ a → a ≤ 53 → ql' a b = ql a b) : zj n mi' ml' qi' ql' :=
  ⟨h.1.same (fun a b hs => hx a b (by unfold zx_st at hs; omega)) (fun b => hxl 9 b (by omega)) (fun a b hs => hq a b (by unfold zq_st at hs; omega) (by unfold zq_st at hs; omega) (by unfold zq_st at hs; omega)) (fun b => hql 35 b (by omega) (by omega)),
   zj_T.same h.2 (fun a b hs => hx a b (by omega)) (fun a b hs => hxl a b (by omega)) (fun a b hs => hq a b (by omega) (by omega) (by omega)) (fun a b hs => hql a b (by omega) (by omega))⟩
theorem p_put_is {n : Nat} (hn : n ≤ 16) : ∀ (f k : Nat) (mi : zw_I) (ml : zw_L), k ≤ n → n < k + f → (∀ a b, (p_put n f (nI k) mi ml).1 a b = if a = 20 ∧ k ≤ b ∧ b < n then p_isFin mi (nI b) else mi a b) ∧ (∀ b, k ≤ b → b < n → ¬ p_isFin mi (nI b) = 0 → (p_put n f (nI k) mi ml).2 21 b = ml (112 + b) (mi 7 b).toNatClampNeg) ∧ ∀ a b, a ≠ 21 ∨ b < k → (p_put n f (nI k) mi ml).2 a b = ml a b
  | 0, k, mi, ml, h1, h2 => by omega
  | f + 1, k, mi, ml, h1, h2 => by
    rw [p_put]
    by_cases c : nI n ≤ nI k
    · have := zn_le (by omega) (by omega) c
      rw [if_pos c]
      exact ⟨fun a b => (if_neg (by omega)).symm, fun b h3 h4 => by omega, fun a b _ => rfl⟩
    · have hk := zn_lt (by omega) c
      rw [if_neg c, nI_1, nI_clamp (by omega), zw_up_self]
      have ef : ∀ b, p_isFin (zw_up mi 20 k (p_isFin mi (nI k))) (nI b) = p_isFin mi (nI b) := fun b => by
        unfold p_isFin
        rw [zw_up_ne1 mi _ _ (by decide), zw_up_ne1 mi _ _ (by decide)]
      have key : ∀ m2 : zw_L, (∀ a b, a ≠ 21 ∨ b ≠ k → m2 a b = ml a b) → (¬ p_isFin mi (nI k) = 0 → m2 21 k = ml (112 + k) (mi 7 k).toNatClampNeg) → (∀ a b, (p_put n f (nI (k + 1)) (zw_up mi 20 k (p_isFin mi (nI k))) m2).1 a b = if a = 20 ∧ k ≤ b ∧ b < n then p_isFin mi (nI b) else mi a b) ∧ (∀ b, k ≤ b → b < n → ¬ p_isFin mi (nI b) = 0 → (p_put n f (nI (k + 1)) (zw_up mi 20 k (p_isFin mi (nI k))) m2).2 21 b = ml (112 + b) (mi 7 b).toNatClampNeg) ∧ ∀ a b, a ≠ 21 ∨ b < k → (p_put n f (nI (k + 1)) (zw_up mi 20 k (p_isFin mi (nI k))) m2).2 a b = ml a b := fun m2 hm hmk => by
        obtain ⟨i1, i2, i3⟩ := p_put_is hn f (k + 1) (zw_up mi 20 k (p_isFin mi (nI k))) m2 (by omega) (by omega)
        refine ⟨fun a b => ?_, fun b h3 h4 h5 => ?_, fun a b h3 => ?_⟩
        · rw [i1, ef]
          by_cases e : a = 20 ∧ b = k
          · obtain ⟨rfl, rfl⟩ := e
            rw [if_neg (by omega), zw_up_self, if_pos (by omega)]
          · rw [zw_up_off _ _ (by omega)]
            by_cases e2 : a = 20 ∧ k ≤ b ∧ b < n
            · rw [if_pos (by omega), if_pos e2]
            · rw [if_neg (by omega), if_neg e2]
        · by_cases e : b = k
          · subst e
            rw [i3 21 b (Or.inr (by omega))]
            exact hmk h5
          · rw [i2 b (by omega) h4 (by rw [ef]; exact h5), zw_up_ne1 mi _ _ (by decide), hm _ _ (Or.inl (by omega))]
        · rw [i3 a b (by omega), hm a b (by omega)]
      by_cases c2 : p_isFin mi (nI k) = 0
      · rw [if_pos c2]
        exact key ml (fun _ _ _ => rfl) (fun e => absurd c2 e)
      · rw [if_neg c2]
        refine key _ (fun a b h3 => ?_) (fun _ => ?_)
        · unfold p_putB
          rw [nI_clamp (by omega), zw_up_off _ _ h3]
        · unfold p_putB
          rw [nI_clamp (by omega), zw_up_self, zw_up_ne1 mi _ _ (by decide)]
theorem q_vals_is {n : Nat} (hn : n ≤ 16) {e : Int32} (he : ¬ e < 0) : ∀ (f k : Nat) (qi : zw_I) (ql : zw_L), qi 32 1 = nI n → k ≤ n → n < k + f → (∀ a b, (q_vals e f (nI k) qi ql).1 a b = if a = 45 ∧ k ≤ b ∧ b < n then q_isFin qi (nI b) else qi a b) ∧ (∀ b, k ≤ b → b < n → (q_vals e f (nI k) qi ql).2 46 b = ql 47 (21 * nI b + qi 33 b).toNatClampNeg) ∧ ∀ a b, a ≠ 46 ∨ b < k → (q_vals e f (nI k) qi ql).2 a b = ql a b
  | 0, k, qi, ql, en, h1, h2 => by omega
  | f + 1, k, qi, ql, en, h1, h2 => by
    rw [q_vals, en]
    by_cases c : nI n ≤ nI k
    · have := zn_le (by omega) (by omega) c
      rw [if_pos c]
      exact ⟨fun a b => (if_neg (by omega)).symm, fun b h3 h4 => by omega, fun a b _ => rfl⟩
    · have hk := zn_lt (by omega) c
      rw [if_neg c, if_neg he, nI_1, nI_clamp (by omega), zw_up_ne1 qi _ _ (by decide)]
      have ef : ∀ b, q_isFin (zw_up qi 45 k (q_isFin qi (nI k))) (nI b) = q_isFin qi (nI b) := fun b => by
        unfold q_isFin
        rw [zw_up_ne1 qi _ _ (by decide), zw_up_ne1 qi _ _ (by decide)]
      obtain ⟨i1, i2, i3⟩ := q_vals_is hn he f (k + 1) (zw_up qi 45 k (q_isFin qi (nI k))) (zw_up ql 46 k (ql 47 (21 * nI k + qi 33 k).toNatClampNeg)) (by rw [zw_up_ne1 qi _ _ (by decide)]; exact en) (by omega) (by omega)
      refine ⟨fun a b => ?_, fun b h3 h4 => ?_, fun a b h3 => ?_⟩
      · rw [i1, ef]
        by_cases e : a = 45 ∧ b = k
        · obtain ⟨rfl, rfl⟩ := e
          rw [if_neg (by omega), zw_up_self, if_pos (by omega)]
        · rw [zw_up_off _ _ (by omega)]
          by_cases e2 : a = 45 ∧ k ≤ b ∧ b < n
          · rw [if_pos (by omega), if_pos e2]
          · rw [if_neg (by omega), if_neg e2]
      · by_cases e : b = k
        · subst e
          rw [i3 46 b (Or.inr (by omega)), zw_up_self]
        · rw [i2 b (by omega) h4, zw_up_ne1 qi _ _ (by decide), zw_up_ne1 ql _ _ (by decide)]
      · rw [i3 a b (by omega), zw_up_off _ _ (by omega)]
theorem q_vals_neg {e : Int32} (he : e < 0) (qi : zw_I) (ql : zw_L) : q_vals e 17 0 qi ql = (qi, ql) := by
  rw [q_vals]
  by_cases c : qi 32 1 ≤ 0
  · rw [if_pos c]
  · rw [if_neg c, if_pos he]
theorem p_end_is (mi : zw_I) : p_end mi = 0 ∨ p_end mi = 1 ∨ p_end mi = -1 ∨ p_end mi = -2 ∨ p_end mi = 2 := by
  unfold p_end
  repeat' split
  all_goals decide
theorem p_loop_is {n : Nat} : ∀ (f : Nat) (x : Int64) (e : Int32) (mi : zw_I) (ml : zw_L), (e = 0 ∨ e = 1 ∨ e = -1 ∨ e = -2 ∨ e = 2) → ((p_loop n f x e mi ml).1 = 0 ∨ (p_loop n f x e mi ml).1 = 1 ∨ (p_loop n f x e mi ml).1 = -1 ∨ (p_loop n f x e mi ml).1 = -2 ∨ (p_loop n f x e mi ml).1 = 2)
  | 0, _, _, _, _, h => h
  | f + 1, x, e, mi, ml, h => by
    rw [p_loop]
    split
    · split
      · exact h
      · split
        · exact p_loop_is f _ _ _ _ h
        · exact p_loop_is f _ _ _ _ (p_end_is _)
    · exact h
theorem p_goE_neg {e : Int32} (h : e = 0 ∨ e = 1 ∨ e = -1 ∨ e = -2 ∨ e = 2) (h0 : ¬ p_goE e = 0) (h1 : ¬ p_goE e = 1) : p_goE e < 0 := by
  rcases h with rfl | rfl | rfl | rfl | rfl
  · exact absurd (by decide) h0
  · exact absurd (by decide) h1
  · decide
  · decide
  · decide
