theorem zt_out {x : Int32} (h0 : ¬ x = 0) (h1 : ¬ x = 1) (h2 : ¬ x = 2) (h3 : ¬ x = 3) (h4 : ¬ x = 4) (h5 : ¬ x = 5) (h6 : ¬ x = 6) (h7 : ¬ x = 7) (h8 : ¬ x = 8) (h9 : ¬ x = 9) (h10 : ¬ x = 10) (h11 : ¬ x = 11) : x.toInt < 0 ∨ 11 < x.toInt := by
  by_cases c : vp_in x 12
  · obtain ⟨j, hj, e⟩ := vp_in_of c (by decide)
    exfalso
    rcases (show j = 0 ∨ j = 1 ∨ j = 2 ∨ j = 3 ∨ j = 4 ∨ j = 5 ∨ j = 6 ∨ j = 7 ∨ j = 8 ∨ j = 9 ∨ j = 10 ∨ j = 11 by omega) with rfl | rfl | rfl | rfl | rfl | rfl | rfl | rfl | rfl | rfl | rfl | rfl
    · exact h0 e
    · exact h1 e
    · exact h2 e
    · exact h3 e
    · exact h4 e
    · exact h5 e
    · exact h6 e
    · exact h7 e
    · exact h8 e
    · exact h9 e
    · exact h10 e
    · exact h11 e
  · rw [vp_in_iff] at c
    omega
def p_within (x lo hi : Int32) : Int32 := if x < lo then 0 else if hi < x then 0 else 1
theorem p_within_01 {x lo hi : Int32} : p_within x lo hi = 0 ∨ p_within x lo hi = 1 := by
  unfold p_within
  split
  · exact Or.inl rfl
  · split
    · exact Or.inl rfl
    · exact Or.inr rfl
theorem p_isFin_01 {mi : zw_I} {x : Int32} : p_isFin mi x = 0 ∨ p_isFin mi x = 1 := by
  unfold p_isFin
  split
  · exact Or.inl rfl
  · exact Or.inr rfl
def p_nearest (x lo hi : Int32) : Int32 := if lo < (if x < hi then x else hi) then (if x < hi then x else hi) else lo
def p_isShare (mi : zw_I) (x : Int32) : Int32 := p_within x 0 (mi 1 0 - 1)
def p_count (n : Nat) (mi : zw_I) : Nat → Int32 → Int32 → Int32
  | 0, a, _ => a
  | f + 1, a, k => if nI n ≤ k then a else if mi 20 k.toNatClampNeg = 0 then p_count n mi f a (k + 1) else p_count n mi f (a + 1) (k + 1)
def p_told (n : Nat) (mi : zw_I) (x : Int32) : Int32 := if x = 0 then mi 1 0 else if x = 1 then mi 1 1 else if x = 2 then mi 3 5 else if x = 3 then mi 1 7 else if x = 4 then mi 5 11 else if x = 5 then mi 5 12 else if x = 6 then mi 5 13 else if x = 7 then mi 5 14 else if x = 8 then mi 5 10 else if x = 9 then mi 6 2 else if x = 10 then mi 5 8 else if x = 11 then p_count n mi (n + 1) 0 0 else -1
def p_putB (k : Int32) (mi : zw_I) (ml : zw_L) : zw_L := zw_up ml 21 k.toNatClampNeg (ml (112 + k.toNatClampNeg) (mi 7 k.toNatClampNeg).toNatClampNeg)
def p_put (n : Nat) : Nat → Int32 → zw_I → zw_L → zw_I × zw_L
  | 0, _, mi, ml => (mi, ml)
  | f + 1, k, mi, ml => if nI n ≤ k then (mi, ml) else if zw_up mi 20 k.toNatClampNeg (p_isFin mi k) 20 k.toNatClampNeg = 0 then p_put n f (k + 1) (zw_up mi 20 k.toNatClampNeg (p_isFin mi k)) ml else p_put n f (k + 1) (zw_up mi 20 k.toNatClampNeg (p_isFin mi k)) (p_putB k (zw_up mi 20 k.toNatClampNeg (p_isFin mi k)) ml)
def p_unset (n : Nat) : Nat → Int32 → zw_I → zw_I
  | 0, _, mi => mi
  | f + 1, k, mi => if nI n ≤ k then mi else p_unset n f (k + 1) (zw_up mi 20 k.toNatClampNeg 0)
def p_clear (n : Nat) (mi : zw_I) (ml : zw_L) : zw_I × zw_L := (p_unset n (n + 1) 0 (p_prep n 0 (p_reset n (n + 1) 0 mi ml).1 (p_reset n (n + 1) 0 mi ml).2).1, (p_prep n 0 (p_reset n (n + 1) 0 mi ml).1 (p_reset n (n + 1) 0 mi ml).2).2)
