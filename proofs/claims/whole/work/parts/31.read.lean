/-! what is read is alike -/
theorem zr_ix {x k : Nat} (hx : x < 16) (hk : k < 6) : (6 * nI x + nI k).toNatClampNeg = 6 * x + k := by
  rw [show (6 : Int32) = nI 6 from rfl, pk_mul, nI_add]
  exact nI_clamp (by omega)
theorem zr_waits {n : Nat} {mi qi : zw_I} (hn : n ≤ 16) (hN : zj_N n mi qi) (hd : ∀ i : Nat, i < n → qi 48 i = mi 23 i) {x : Nat} (hx : x < n) : ∀ (f k : Nat), k + f ≤ 7 →
    (p_unmet mi (nI x) (mi 23 x) f (nI k) = -1 ∧ q_waits qi (nI x) f (nI k) = -1) ∨ ∃ j : Nat, j < 6 ∧ q_waits qi (nI x) f (nI k) = nI (6 * x + j) ∧ p_unmet mi (nI x) (mi 23 x) f (nI k) = qi 38 (6 * x + j) ∧ vp_in (qi 38 (6 * x + j)) n
  | 0, _, _ => Or.inl ⟨rfl, rfl⟩
  | f + 1, k, hk => by
    obtain ⟨c, hc, c1, c2⟩ := hN.1 x hx
    have ex : (nI x).toNatClampNeg = x := nI_clamp (by omega)
    rw [p_unmet, q_waits, ex, c1, c2]
    by_cases h : nI c ≤ nI k
    · rw [if_pos h, if_pos h]; exact Or.inl ⟨rfl, rfl⟩
    · rw [if_neg h, if_neg h]
      have hkc : k < c := zn_lt (by omega) h
      have ek : (nI k).toNatClampNeg = k := nI_clamp (by omega)
      obtain ⟨e1, e2, e3, v1, v2⟩ := hN.2.1 x k hx (by omega)
      obtain ⟨o, ho, eo, -⟩ := zv_of v1 (by omega)
      have ih := zr_waits hn hN hd hx f (k + 1) (by omega)
      rw [ek, zr_ix (by omega) (by omega), e1, e2, e3, nI_1, hd x hx, eo, nI_clamp (by omega), hd o ho]
      by_cases h1 : mi (64 + x) k = mi 23 x
      · rw [if_pos h1, if_pos h1]
        by_cases h2 : mi (96 + x) k ≤ mi 23 o
        · rw [if_pos h2, if_pos h2]; exact ih
        · rw [if_neg h2, if_neg h2]
          refine Or.inr ⟨k, by omega, ?_, ?_, ?_⟩
          · rw [show (6 : Int32) = nI 6 from rfl, pk_mul, nI_add]
          · rw [e2, eo]
          · rw [e2]; exact v1
      · rw [if_neg h1, if_neg h1]; exact ih
theorem zr_sum {n : Nat} {mi qi : zw_I} {ml ql : zw_L} (hn : n ≤ 16) (hN : zj_N n mi qi) (hV : zj_V n ml ql) {x : Nat} (hx : x < n) (s : Int32) : ∀ (f k : Nat) (a b : Int64), k + f ≤ 7 → q_sum qi ql (nI x) s f (nI k) (b + a) = b + p_sum mi ml (nI x) s f (nI k) a
  | 0, _, _, _, _ => rfl
  | f + 1, k, a, b, hk => by
    obtain ⟨c, hc, c1, c2⟩ := hN.1 x hx
    have ex : (nI x).toNatClampNeg = x := nI_clamp (by omega)
    rw [p_sum, q_sum, ex, c1, c2]
    by_cases h : nI c ≤ nI k
    · rw [if_pos h, if_pos h]
    · rw [if_neg h, if_neg h]
      have hkc : k < c := zn_lt (by omega) h
      have ek : (nI k).toNatClampNeg = k := nI_clamp (by omega)
      obtain ⟨e1, e2, e3, v1, v2⟩ := hN.2.1 x k hx (by omega)
      obtain ⟨o, ho, eo, -⟩ := zv_of v1 (by omega)
      obtain ⟨t, ht, et, -⟩ := zv_of v2 (by omega)
      rw [ek, zr_ix (by omega) (by omega), e1, e2, e3, nI_1]
      by_cases h1 : mi (64 + x) k = s
      · rw [if_pos h1, if_pos h1, eo, et, nI_clamp (by omega), nI_clamp (by omega), show (21 : Int32) = nI 21 from rfl, pk_mul, nI_add, nI_clamp (by omega), hV o t ho (by omega), Int64.add_assoc]
        exact zr_sum hn hN hV hx s f (k + 1) _ b (by omega)
      · rw [if_neg h1, if_neg h1, Int64.add_zero]
        exact zr_sum hn hN hV hx s f (k + 1) a b (by omega)
theorem zr_next {n : Nat} {mi qi : zw_I} {ml ql : zw_L} (hn : n ≤ 16) (hN : zj_N n mi qi) (hV : zj_V n ml ql) {x d : Nat} (hx : x < n) (hd : d ≤ 20) (e1 : mi 23 x = nI d) (e2 : qi 48 x = nI d) : q_next qi ql (nI x) = p_next mi ml (nI x) := by
  have ex : (nI x).toNatClampNeg = x := nI_clamp (by omega)
  unfold q_next p_next
  rw [ex, e1, e2, nI_clamp (by omega), show (21 : Int32) = nI 21 from rfl, pk_mul, nI_add, nI_clamp (by omega), hV x d hx (by omega)]
  have h := zr_sum hn hN hV hx (nI d) 7 0 0 (ml (112 + x) d * 6364136223846793005 + (nI d).toInt64 + 1) (by omega)
  rw [Int64.add_zero] at h
  exact h
theorem zr_strike {mi qi : zw_I} (hF : zj_F mi qi) (hL : ∀ k : Nat, k < 8 → qi 44 k = mi 18 k) {w x s : Int32} (hs : qi 48 x.toNatClampNeg = s) : ∀ (f k : Nat), k + f ≤ 9 →
    ((p_strike w x s mi f (nI k)).1 = 0 ∧ (p_strike w x s mi f (nI k)).2 = mi ∧ (q_fails w x qi f (nI k)).1 = 0 ∧ (q_fails w x qi f (nI k)).2 = qi) ∨
    ∃ j : Nat, j < 8 ∧ (p_strike w x s mi f (nI k)).1 = 1 ∧ (p_strike w x s mi f (nI k)).2 = zw_up mi 18 j (mi 18 j - 1) ∧ (q_fails w x qi f (nI k)).1 = 1 ∧ (q_fails w x qi f (nI k)).2 = zw_up qi 44 j (mi 18 j - 1)
  | 0, _, _ => Or.inl ⟨rfl, rfl, rfl, rfl⟩
  | f + 1, k, hk => by
    obtain ⟨⟨c, hc, c1, c2⟩, hE⟩ := hF
    rw [p_strike, q_fails, c1, c2]
    by_cases h : nI c ≤ nI k
    · rw [if_pos h, if_pos h]; exact Or.inl ⟨rfl, rfl, rfl, rfl⟩
    · rw [if_neg h, if_neg h]
      have hkc : k < c := zn_lt (by omega) h
      have ek : (nI k).toNatClampNeg = k := nI_clamp (by omega)
      obtain ⟨e1, e2, e3, e4⟩ := hE k (by omega)
      have ih := zr_strike (w := w) ⟨⟨c, hc, c1, c2⟩, hE⟩ hL hs f (k + 1) (by omega)
      rw [ek, e1, e2, e3, hL k (by omega), nI_1, hs]
      by_cases h1 : mi 18 k ≤ 0
      · rw [if_pos h1, if_pos h1]
        have : (if mi 14 k = w then if mi 15 k = x then if mi 16 k = s then p_strike w x s mi f (nI (k + 1)) else p_strike w x s mi f (nI (k + 1)) else p_strike w x s mi f (nI (k + 1)) else p_strike w x s mi f (nI (k + 1))) = p_strike w x s mi f (nI (k + 1)) := by
          split
          · split
            · split <;> rfl
            · rfl
          · rfl
        rw [this]
        exact ih
      · rw [if_neg h1, if_neg h1]
        by_cases h2 : mi 14 k = w
        · rw [if_pos h2, if_pos h2]
          by_cases h3 : mi 15 k = x
          · rw [if_pos h3, if_pos h3]
            by_cases h4 : mi 16 k = s
            · rw [if_pos h4, if_pos h4]
              exact Or.inr ⟨k, by omega, rfl, rfl, rfl, rfl⟩
            · rw [if_neg h4, if_neg h4]; exact ih
          · rw [if_neg h3, if_neg h3]; exact ih
        · rw [if_neg h2, if_neg h2]; exact ih
section ZR
variable {n w : Nat} {mi qi : zw_I} {ml ql : zw_L}
theorem zr_n (h : zr n w mi ml qi ql) : n ≤ 16 := h.2.1.1.1.2
theorem zr_dn (h : zr n w mi ml qi ql) : ∀ i : Nat, i < n → qi 48 i = mi 23 i := fun i hi => by
  obtain ⟨d, t, -, -, e1, e2, -⟩ := h.2.2.2.2.2.2.2.1 i hi
  rw [e1, e2]
/-- the class's wait and the reference's -/
theorem zr_wait (h : zr n w mi ml qi ql) {x : Nat} (hx : x < n) : (p_wait mi (nI x) = -1 ∧ q_waits qi (nI x) 7 0 = -1) ∨ ∃ j o : Nat, j < 6 ∧ o < n ∧ q_waits qi (nI x) 7 0 = nI (6 * x + j) ∧ p_wait mi (nI x) = nI o ∧ qi 38 (6 * x + j) = nI o := by
  have e : (nI x).toNatClampNeg = x := nI_clamp (by have := zr_n h; omega)
  have q := zr_waits (zr_n h) h.2.1.2.1 (zr_dn h) hx 7 0 (by omega)
  unfold p_wait
  rw [e]
  rcases q with q | ⟨j, hj, q1, q2, q3⟩
  · exact Or.inl q
  · obtain ⟨o, ho, eo, -⟩ := zv_of q3 (by have := zr_n h; omega)
    exact Or.inr ⟨j, o, hj, ho, q1, q2.trans eo, eo⟩
/-- the queue's first -/
theorem zr_first (h : zr n w mi ml qi ql) : (p_first mi = -1 ∧ qi 32 23 = 0) ∨ ∃ x q : Nat, x < n ∧ p_first mi = nI x ∧ qi 50 0 = nI x ∧ qi 32 23 = nI (q + 1) ∧ mi 4 2 = nI (q + 1) ∧ q < n := by
  have hn := zr_n h
  obtain ⟨hd, f, Q, h1, h2, h3, h4, h5, -, -, -, -, h9⟩ := h.2.2.2.2.1
  unfold p_first
  rw [h3, h2]
  cases Q with
  | nil =>
    left
    rw [List.length_nil, if_pos (by decide)]
    exact ⟨rfl, h4⟩
  | cons x Q =>
    right
    have hl : (x :: Q).length = Q.length + 1 := rfl
    rw [hl] at h3 h4 h9 ⊢
    obtain ⟨e1, e2, e3⟩ := h5 0 (by rw [hl]; omega)
    rw [if_neg (nI_nle (by omega) (by omega))]
    refine ⟨x, Q.length, e3, ?_, e2, h4, rfl, by omega⟩
    rw [nI_clamp (by omega)]
    rw [Nat.add_zero, Nat.mod_eq_of_lt h1] at e1
    exact e1
theorem zr_can (h : zr n w mi ml qi ql) : q_canTake qi = p_canTake mi := by
  have hn := zr_n h
  unfold q_canTake p_canTake
  obtain ⟨r, -, -, r1, r2⟩ := h.2.1.1.2.2.1
  have hu := h.2.2.2.2.2.2.2.2.1
  rcases zr_first h with ⟨a, b⟩ | ⟨x, q, hx, a, b, c, -, hq⟩
  · rw [a, b, if_pos (by decide), if_pos rfl]
  · obtain ⟨wt, -, w1, w2⟩ := h.2.1.1.2.2.2.2.2.1 x hx
    rw [a, c, if_neg (nI_nle (by omega) (by omega)), if_neg (nI_m1 (by omega)), r1, r2, hu, show (0 : Int32).toNatClampNeg = 0 from rfl, b, nI_clamp (by omega), w1, w2]
end ZR
