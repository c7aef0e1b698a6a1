/-! THE CALL clear, and a new object -/
theorem q_clr1_is : ∀ (f k : Nat) (mi : zw_I) (ml : zw_L), k ≤ 16 → 16 < k + f → (∀ b, k ≤ b → b < 16 → (q_clr1 f (nI k) mi ml).1 33 b = 1 ∧ (q_clr1 f (nI k) mi ml).1 34 b = 1 ∧ (q_clr1 f (nI k) mi ml).1 36 b = 0 ∧ (q_clr1 f (nI k) mi ml).1 45 b = 0 ∧ (q_clr1 f (nI k) mi ml).1 52 b = 0 ∧ (q_clr1 f (nI k) mi ml).2 35 b = (nI b).toInt64) ∧ (∀ a b, ((a ≠ 33 ∧ a ≠ 34 ∧ a ≠ 36 ∧ a ≠ 45 ∧ a ≠ 48 ∧ a ≠ 52) ∨ b < k) → (q_clr1 f (nI k) mi ml).1 a b = mi a b) ∧ ∀ a b, (a ≠ 35 ∨ b < k) → (q_clr1 f (nI k) mi ml).2 a b = ml a b
  | 0, k, mi, ml, h1, h2 => by omega
  | f + 1, k, mi, ml, h1, h2 => by
    rw [q_clr1, show (16 : Int32) = nI 16 from rfl]
    by_cases c : nI 16 ≤ nI k
    · have := zn_le (by omega) (by omega) c
      rw [if_pos c]
      exact ⟨fun b h3 h4 => by omega, fun _ _ _ => rfl, fun _ _ _ => rfl⟩
    · have hk := zn_lt (by omega) c
      rw [if_neg c, nI_1, nI_clamp (by omega)]
      obtain ⟨i1, i2, i3⟩ := q_clr1_is f (k + 1) (zw_up (zw_up (zw_up (zw_up (zw_up (zw_up mi 33 k 1) 34 k 1) 36 k 0) 45 k 0) 48 k 0) 52 k 0) (zw_up ml 35 k (nI k).toInt64) (by omega) (by omega)
      refine ⟨fun b h3 h4 => ?_, fun a b h3 => ?_, fun a b h3 => ?_⟩
      · by_cases e : b = k
        · subst e
          rw [i2 33 b (by omega), i2 34 b (by omega), i2 36 b (by omega), i2 45 b (by omega), i2 52 b (by omega), i3 35 b (by omega)]
          simp [zw_up]
        · exact i1 b (by omega) h4
      · rw [i2 a b (by omega), zw_up_off _ _ (by omega), zw_up_off _ _ (by omega), zw_up_off _ _ (by omega), zw_up_off _ _ (by omega), zw_up_off _ _ (by omega), zw_up_off _ _ (by omega)]
      · rw [i3 a b (by omega), zw_up_off _ _ (by omega)]
theorem p_reset_is {n : Nat} (hn : n ≤ 16) : ∀ (f k : Nat) (mi : zw_I) (ml : zw_L), k ≤ n → n < k + f → (∀ b, k ≤ b → b < n → (p_reset n f (nI k) mi ml).1 7 b = 1 ∧ (p_reset n f (nI k) mi ml).1 8 b = 1 ∧ (p_reset n f (nI k) mi ml).1 10 b = 0 ∧ (p_reset n f (nI k) mi ml).2 9 b = (nI b).toInt64) ∧ (p_reset n f (nI k) mi ml).1 3 5 = 0 ∧ (p_reset n f (nI k) mi ml).1 1 7 = -1 ∧ (∀ a b, ((a ≠ 7 ∧ a ≠ 8 ∧ a ≠ 10) ∨ b < k) → (a ≠ 3 ∨ b ≠ 5) → (a ≠ 1 ∨ b ≠ 7) → (p_reset n f (nI k) mi ml).1 a b = mi a b) ∧ ∀ a b, (a ≠ 9 ∨ b < k) → (p_reset n f (nI k) mi ml).2 a b = ml a b
  | 0, k, mi, ml, h1, h2 => by omega
  | f + 1, k, mi, ml, h1, h2 => by
    rw [p_reset]
    by_cases c : nI n ≤ nI k
    · have := zn_le (by omega) (by omega) c
      rw [if_pos c]
      refine ⟨fun b h3 h4 => by omega, ?_, ?_, fun a b h3 h4 h5 => ?_, fun _ _ _ => rfl⟩
      · dsimp only; rw [zw_up_ne1 _ _ _ (by decide), zw_up_self]
      · dsimp only; rw [zw_up_self]
      · dsimp only; rw [zw_up_off _ _ (by omega), zw_up_off _ _ (by omega)]
    · have hk := zn_lt (by omega) c
      rw [if_neg c, nI_1, nI_clamp (by omega)]
      obtain ⟨i1, i4, i5, i2, i3⟩ := p_reset_is hn f (k + 1) (zw_up (zw_up (zw_up mi 7 k 1) 8 k 1) 10 k 0) (zw_up ml 9 k (nI k).toInt64) (by omega) (by omega)
      refine ⟨fun b h3 h4 => ?_, i4, i5, fun a b h3 h4 h5 => ?_, fun a b h3 => ?_⟩
      · by_cases e : b = k
        · subst e
          rw [i2 7 b (by omega) (by omega) (by omega), i2 8 b (by omega) (by omega) (by omega), i2 10 b (by omega) (by omega) (by omega), i3 9 b (by omega)]
          simp [zw_up]
        · exact i1 b (by omega) h4
      · rw [i2 a b (by omega) h4 h5, zw_up_off _ _ (by omega), zw_up_off _ _ (by omega), zw_up_off _ _ (by omega)]
      · rw [i3 a b (by omega), zw_up_off _ _ (by omega)]
theorem p_unset_is {n : Nat} (hn : n ≤ 16) : ∀ (f k : Nat) (mi : zw_I), k ≤ n → n < k + f → (∀ b, k ≤ b → b < n → p_unset n f (nI k) mi 20 b = 0) ∧ ∀ a b, (a ≠ 20 ∨ b < k) → p_unset n f (nI k) mi a b = mi a b
  | 0, k, mi, h1, h2 => by omega
  | f + 1, k, mi, h1, h2 => by
    rw [p_unset]
    by_cases c : nI n ≤ nI k
    · have := zn_le (by omega) (by omega) c
      rw [if_pos c]
      exact ⟨fun b h3 h4 => by omega, fun _ _ _ => rfl⟩
    · have hk := zn_lt (by omega) c
      rw [if_neg c, nI_1, nI_clamp (by omega)]
      obtain ⟨i1, i2⟩ := p_unset_is hn f (k + 1) (zw_up mi 20 k 0) (by omega) (by omega)
      refine ⟨fun b h3 h4 => ?_, fun a b h3 => ?_⟩
      · by_cases e : b = k
        · subst e
          rw [i2 20 b (by omega), zw_up_self]
        · exact i1 b (by omega) h4
      · rw [i2 a b (by omega), zw_up_off _ _ (by omega)]
theorem zJ_clr {n r : Nat} {m : zw_I} {l : zw_L} (h1 : 1 ≤ n) (hn : n ≤ 16) (hr1 : 1 ≤ r) (hr : r ≤ 1000) (a1 : m 1 0 = nI n) (a2 : m 32 1 = nI n) (a3 : m 1 1 = nI r) (a4 : m 32 2 = nI r) (a5 : m 1 7 = -1) (a6 : ∀ i : Nat, i < n → m 7 i = 1 ∧ m 8 i = 1 ∧ m 10 i = 0 ∧ l 9 i = (nI i).toInt64) (a7 : m 3 5 = 0)
    (a8 : ∀ i k : Nat, i < n → k < 6 → m 37 (6 * i + k) = m (64 + i) k ∧ m 38 (6 * i + k) = m (80 + i) k ∧ m 39 (6 * i + k) = m (96 + i) k ∧ vp_in (m (80 + i) k) n ∧ vp_in (m (96 + i) k) 21) (a9 : ∀ k : Nat, k < 96 → vp_in (m 38 k) 16 ∧ vp_in (m 39 k) 21) (a10 : ∀ k : Nat, k < 8 → m 40 k = m 14 k ∧ m 41 k = m 15 k ∧ m 42 k = m 16 k ∧ m 43 k = m 17 k) (a11 : zj_V1 n l l) (a12 : ∀ b, 8 ≤ b → b ≤ 14 → m 5 b = 0) (a13 : ∀ i : Nat, i < n → m 25 i = 0 ∧ m 20 i = 0) (a14 : ∀ i j : Nat, i < n → j < n → m (128 + i) j = 0) (a15 : ∀ k : Nat, k < 8 → m 44 k = m 18 k) (a16 : ∀ k : Nat, k < 16 → vp_in (m 50 k) 16) (a17 : m 6 2 = 0) (a18 : zi_L n m) (a19 : zi_C n m) : zJ n (q_clear m l).1 (q_clear m l).2 := by
  obtain ⟨i1, i2, i3⟩ := q_clr1_is 17 0 (q_clr0 m) l (by omega) (by omega)
  rw [show nI 0 = (0 : Int32) from rfl] at i1 i2 i3
  have b2 := q_beg2_is 257 0 (q_clr1 17 0 (q_clr0 m) l).1 (by omega) (by omega)
  rw [show nI 0 = (0 : Int32) from rfl] at b2
  have o0 : ∀ a b, (a ≠ 32 ∨ (b ≠ 0 ∧ b ≠ 15 ∧ b ≠ 16)) → q_clr0 m a b = m a b := fun a b h => by
    unfold q_clr0
    rw [zw_up_off _ _ (by omega), zw_up_off _ _ (by omega), zw_up_off _ _ (by omega)]
  have o15 : q_clr0 m 32 15 = 0 := by
    unfold q_clr0
    rw [zw_up_ne2 _ _ _ (by decide), zw_up_self]
  have o16 : q_clr0 m 32 16 = -1 := by
    unfold q_clr0
    rw [zw_up_self]
  have o3 : ∀ (M : zw_I) a b, (a ≠ 32 ∨ b < 29 ∨ 35 < b) → q_clr3 M a b = M a b := fun M a b h => by
    unfold q_clr3
    rw [zw_up_off _ _ (by omega), zw_up_off _ _ (by omega), zw_up_off _ _ (by omega), zw_up_off _ _ (by omega), zw_up_off _ _ (by omega), zw_up_off _ _ (by omega), zw_up_off _ _ (by omega)]
  have z3 : ∀ (M : zw_I) b, 29 ≤ b → b ≤ 35 → q_clr3 M 32 b = 0 := fun M b h1 h2 => by
    have : b = 29 ∨ b = 30 ∨ b = 31 ∨ b = 32 ∨ b = 33 ∨ b = 34 ∨ b = 35 := by omega
    unfold q_clr3
    rcases this with rfl | rfl | rfl | rfl | rfl | rfl | rfl <;> simp [zw_up]
  obtain ⟨M, eM⟩ : ∃ M, M = (q_clear m l).1 := ⟨_, rfl⟩
  obtain ⟨L, eL⟩ : ∃ L, L = (q_clear m l).2 := ⟨_, rfl⟩
  rw [← eM, ← eL]
  have eM' : M = q_clr3 (fun a b => if a = 53 ∧ 0 ≤ b ∧ b < 256 then 0 else (q_clr1 17 0 (q_clr0 m) l).1 a b) := by rw [eM, ← b2]; rfl
  have oL : ∀ a b, a ≠ 35 → L a b = l a b := fun a b h => by rw [eL]; exact i3 a b (Or.inl h)
  have L35 : ∀ b, b < 16 → L 35 b = (nI b).toInt64 := fun b h => by rw [eL]; exact (i1 b (by omega) h).2.2.2.2.2
  have mid : ∀ a b, a ≠ 53 → (a ≠ 32 ∨ b < 29 ∨ 35 < b) → M a b = (q_clr1 17 0 (q_clr0 m) l).1 a b := fun a b h1 h2 => by
    rw [eM', o3 _ a b h2]
    exact if_neg (by omega)
  have off : ∀ a b, a ≠ 33 → a ≠ 34 → a ≠ 36 → a ≠ 45 → a ≠ 48 → a ≠ 52 → a ≠ 53 → (a ≠ 32 ∨ (b < 29 ∧ b ≠ 0 ∧ b ≠ 15 ∧ b ≠ 16)) → M a b = m a b := fun a b h1 h2 h3 h4 h5 h6 h7 h8 => by
    rw [mid a b h7 (by omega), i2 a b (by omega), o0 a b (by omega)]
  have M15 : M 32 15 = 0 := by rw [mid 32 15 (by omega) (by omega), i2 32 15 (by omega), o15]
  have M16 : M 32 16 = -1 := by rw [mid 32 16 (by omega) (by omega), i2 32 16 (by omega), o16]
  have Mz : ∀ b, 29 ≤ b → b ≤ 35 → M 32 b = 0 := fun b h1 h2 => by rw [eM]; exact z3 _ b h1 h2
  have M33 : ∀ b, b < 16 → M 33 b = 1 := fun b h => by rw [mid 33 b (by omega) (by omega)]; exact (i1 b (by omega) h).1
  have M34 : ∀ b, b < 16 → M 34 b = 1 := fun b h => by rw [mid 34 b (by omega) (by omega)]; exact (i1 b (by omega) h).2.1
  have M36 : ∀ b, b < 16 → M 36 b = 0 := fun b h => by rw [mid 36 b (by omega) (by omega)]; exact (i1 b (by omega) h).2.2.1
  have M45 : ∀ b, b < 16 → M 45 b = 0 := fun b h => by rw [mid 45 b (by omega) (by omega)]; exact (i1 b (by omega) h).2.2.2.1
  have M52 : ∀ b, b < 16 → M 52 b = 0 := fun b h => by rw [mid 52 b (by omega) (by omega)]; exact (i1 b (by omega) h).2.2.2.2.1
  have M53 : ∀ b, b < 256 → M 53 b = 0 := fun b h => by
    rw [eM', o3 _ 53 b (by omega)]
    exact if_pos (by omega)
  have lo : ∀ a b, a < 32 ∨ 53 < a → M a b = m a b := fun a b h => off a b (by omega) (by omega) (by omega) (by omega) (by omega) (by omega) (by omega) (by omega)
  refine ⟨⟨⟨⟨h1, hn⟩, ⟨?_, ?_⟩, ⟨r, hr1, hr, ?_, ?_⟩, ⟨?_, ?_⟩, fun i hi => ⟨1, by omega, by omega, ?_, ?_⟩, fun i hi => ⟨1, by omega, ?_, ?_⟩, fun i hi => ?_⟩, ⟨fun i hi => ⟨0, by omega, ?_, ?_⟩, fun i k hi hk => ?_, fun i hi => ⟨0, by omega, ?_⟩, fun k hk => ?_⟩, ⟨0, by omega, ?_, ?_⟩, fun k hk => ?_⟩, fun i j hi hj0 hj => ?_, ⟨⟨0, by omega, ?_, ?_, fun k hk => by omega⟩, fun i hi => ?_, fun i j hi hj => ?_, ⟨?_, ?_, ?_, ?_, ?_⟩, fun k hk => ?_, fun k hk => ?_⟩, fun i hi => ⟨?_, ?_, ?_⟩, ?_, ⟨?_, ?_, fun i hi => ?_⟩, ?_, fun k hk => ?_, fun v hv => ?_⟩
  · rw [lo 1 0 (by omega)]; exact a1
  · rw [off 32 1 (by omega) (by omega) (by omega) (by omega) (by omega) (by omega) (by omega) (by omega)]; exact a2
  · rw [lo 1 1 (by omega)]; exact a3
  · rw [off 32 2 (by omega) (by omega) (by omega) (by omega) (by omega) (by omega) (by omega) (by omega)]; exact a4
  · rw [M16, lo 1 7 (by omega), a5]
  · rw [lo 1 7 (by omega)]; exact Or.inl a5
  · rw [lo 7 i (by omega)]; exact (a6 i hi).1
  · exact M33 i (by omega)
  · rw [lo 8 i (by omega)]; exact (a6 i hi).2.1
  · exact M34 i (by omega)
  · rw [L35 i (by omega), oL 9 i (by omega), (a6 i hi).2.2.2]
  · rw [lo 10 i (by omega)]; exact (a6 i hi).2.2.1
  · exact M36 i (by omega)
  · rw [lo (64 + i) k (by omega), lo (80 + i) k (by omega), lo (96 + i) k (by omega), off 37 _ (by omega) (by omega) (by omega) (by omega) (by omega) (by omega) (by omega) (by omega), off 38 _ (by omega) (by omega) (by omega) (by omega) (by omega) (by omega) (by omega) (by omega), off 39 _ (by omega) (by omega) (by omega) (by omega) (by omega) (by omega) (by omega) (by omega)]
    exact a8 i k hi hk
  · exact M36 i (by omega)
  · rw [off 38 _ (by omega) (by omega) (by omega) (by omega) (by omega) (by omega) (by omega) (by omega), off 39 _ (by omega) (by omega) (by omega) (by omega) (by omega) (by omega) (by omega) (by omega)]
    exact a9 k hk
  · rw [lo 3 5 (by omega)]; exact a7
  · exact M15
  · rw [lo 14 k (by omega), lo 15 k (by omega), lo 16 k (by omega), lo 17 k (by omega), off 40 _ (by omega) (by omega) (by omega) (by omega) (by omega) (by omega) (by omega) (by omega), off 41 _ (by omega) (by omega) (by omega) (by omega) (by omega) (by omega) (by omega) (by omega), off 42 _ (by omega) (by omega) (by omega) (by omega) (by omega) (by omega) (by omega) (by omega), off 43 _ (by omega) (by omega) (by omega) (by omega) (by omega) (by omega) (by omega) (by omega)]
    exact a10 k hk
  · rw [oL 47 _ (by omega), oL (112 + i) _ (by omega)]; exact a11 i j hi hj0 hj
  · rw [lo 5 8 (by omega)]; exact a12 8 (by omega) (by omega)
  · exact Mz 29 (by omega) (by omega)
  · rw [M52 i (by omega), lo 25 i (by omega), (a13 i hi).1]
  · rw [M53 _ (by omega), lo (128 + i) j (by omega), a14 i j hi hj]
  · rw [Mz 30 (by omega) (by omega), lo 5 11 (by omega), a12 11 (by omega) (by omega)]
  · rw [Mz 31 (by omega) (by omega), lo 5 12 (by omega), a12 12 (by omega) (by omega)]
  · rw [Mz 32 (by omega) (by omega), lo 5 13 (by omega), a12 13 (by omega) (by omega)]
  · rw [Mz 33 (by omega) (by omega), lo 5 14 (by omega), a12 14 (by omega) (by omega)]
  · rw [Mz 34 (by omega) (by omega), lo 5 10 (by omega), a12 10 (by omega) (by omega)]
  · rw [off 44 _ (by omega) (by omega) (by omega) (by omega) (by omega) (by omega) (by omega) (by omega), lo 18 k (by omega)]; exact a15 k hk
  · rw [off 50 _ (by omega) (by omega) (by omega) (by omega) (by omega) (by omega) (by omega) (by omega)]; exact a16 k hk
  · rw [M45 i (by omega), lo 20 i (by omega), (a13 i hi).2]
  · rw [lo 20 i (by omega)]; exact Or.inl (a13 i hi).2
  · rw [lo 20 i (by omega)]; exact fun q => absurd (a13 i hi).2 q
  · rw [Mz 35 (by omega) (by omega), lo 6 2 (by omega), a17]
  · rw [lo 4 1 (by omega)]; exact a18.1
  · rw [lo 4 2 (by omega)]; exact a18.2.1
  · rw [lo 22 i (by omega)]; exact a18.2.2 i hi
  · rw [lo 6 2 (by omega)]; exact a19.1
  · rw [lo 28 k (by omega)]; exact a19.2.1 k hk
  · rw [lo 29 v (by omega)]; exact a19.2.2 v hv
theorem zA_clear {n : Nat} : zl_A_clear n (zJ n) := by
  intro mi ml h
  have hn := zJ_n h
  have h1 : 1 ≤ n := h.1.1.1.1
  obtain ⟨i1, i4, i5, i2, i3⟩ := p_reset_is hn (n + 1) 0 mi ml (by omega) (by omega)
  rw [show nI 0 = (0 : Int32) from rfl] at i1 i4 i5 i2 i3
  obtain ⟨R, eR⟩ : ∃ R, R = (p_reset n (n + 1) 0 mi ml).1 := ⟨_, rfl⟩
  obtain ⟨S, eS⟩ : ∃ S, S = (p_reset n (n + 1) 0 mi ml).2 := ⟨_, rfl⟩
  have eC : p_clear n mi ml = (p_unset n (n + 1) 0 (p_prep n (nI 0) R S).1, (p_prep n (nI 0) R S).2) := by rw [eR, eS]; rfl
  rw [← eR] at i1 i4 i5 i2 ⊢
  rw [← eS] at i1 i3
  rw [eC]
  obtain ⟨P, eP, p5, p18, p28, p29, p62, p22, p41, p42, p23, p25, p128, po, pL⟩ := p_prep_is hn (w := 0) (c := 0) (by omega) (by omega) R S (by rw [i4]; rfl)
  rw [eP, pL]
  dsimp only
  obtain ⟨u1, u2⟩ := p_unset_is hn (n + 1) 0 P (by omega) (by omega)
  rw [show nI 0 = (0 : Int32) from rfl] at u1 u2
  have uo : ∀ a b, a ≠ 20 → p_unset n (n + 1) 0 P a b = P a b := fun a b ha => u2 a b (Or.inl ha)
  have eo : ∀ a b, a ≠ 4 → a ≠ 5 → a ≠ 6 → a ≠ 18 → a ≠ 22 → a ≠ 23 → a ≠ 25 → a ≠ 28 → a ≠ 29 → a < 128 → a ≠ 20 → a ≠ 7 → a ≠ 8 → a ≠ 10 → (a ≠ 3 ∨ b ≠ 5) → (a ≠ 1 ∨ b ≠ 7) → p_unset n (n + 1) 0 P a b = mi a b := fun a b c1 c2 c3 c4 c5 c6 c7 c8 c9 c10 c11 c12 c13 c14 c15 c16 => by
    rw [uo a b c11, po a b c1 c2 c3 c4 c5 c6 c7 c8 c9 c10, i2 a b (by omega) c15 c16]
  have e32 : ∀ a b, 30 ≤ a → a < 128 → p_unset n (n + 1) 0 P a b = mi a b := fun a b c1 c2 => eo a b (by omega) (by omega) (by omega) (by omega) (by omega) (by omega) (by omega) (by omega) (by omega) (by omega) (by omega) (by omega) (by omega) (by omega) (by omega) (by omega)
  have lo9 : ∀ b, (if 112 + 0 ≤ 9 ∧ 9 < 112 + n ∧ b = 0 then S 9 (9 - 112) else S 9 b) = S 9 b := fun b => if_neg (by omega)
  obtain ⟨r, r1, r2, r3, r4⟩ := h.1.1.2.2.1
  refine ⟨by rw [i2 1 0 (by omega) (by omega) (by omega)]; exact zJ_10 h, i4, ?_⟩
  refine zJ_clr h1 hn r1 r2 ?_ ?_ ?_ ?_ ?_ (fun i hi => ⟨?_, ?_, ?_, ?_⟩) ?_ (fun i k hi hk => ?_) (fun k hk => ?_) (fun k hk => ?_) (fun i j hi hj0 hj => ?_) (fun b q1 q2 => ?_) (fun i hi => ⟨?_, ?_⟩) (fun i j hi hj => ?_) (fun k hk => ?_) (fun k hk => ?_) ?_ ⟨?_, ?_, fun i hi => ?_⟩ ⟨?_, fun k hk => ?_, fun v hv => ?_⟩
  · rw [eo 1 0 (by omega) (by omega) (by omega) (by omega) (by omega) (by omega) (by omega) (by omega) (by omega) (by omega) (by omega) (by omega) (by omega) (by omega) (by omega) (by omega)]; exact zJ_10 h
  · rw [e32 32 1 (by omega) (by omega)]; exact zJ_321 h
  · rw [eo 1 1 (by omega) (by omega) (by omega) (by omega) (by omega) (by omega) (by omega) (by omega) (by omega) (by omega) (by omega) (by omega) (by omega) (by omega) (by omega) (by omega)]; exact r3
  · rw [e32 32 2 (by omega) (by omega)]; exact r4
  · rw [uo 1 7 (by omega), po 1 7 (by omega) (by omega) (by omega) (by omega) (by omega) (by omega) (by omega) (by omega) (by omega) (by omega), i5]
  · rw [uo 7 i (by omega), po 7 i (by omega) (by omega) (by omega) (by omega) (by omega) (by omega) (by omega) (by omega) (by omega) (by omega)]; exact (i1 i (by omega) hi).1
  · rw [uo 8 i (by omega), po 8 i (by omega) (by omega) (by omega) (by omega) (by omega) (by omega) (by omega) (by omega) (by omega) (by omega)]; exact (i1 i (by omega) hi).2.1
  · rw [uo 10 i (by omega), po 10 i (by omega) (by omega) (by omega) (by omega) (by omega) (by omega) (by omega) (by omega) (by omega) (by omega)]; exact (i1 i (by omega) hi).2.2.1
  · exact (lo9 i).trans (i1 i (by omega) hi).2.2.2
  · rw [uo 3 5 (by omega), po 3 5 (by omega) (by omega) (by omega) (by omega) (by omega) (by omega) (by omega) (by omega) (by omega) (by omega), i4]
  · rw [e32 37 _ (by omega) (by omega), e32 38 _ (by omega) (by omega), e32 39 _ (by omega) (by omega), e32 (64 + i) _ (by omega) (by omega), e32 (80 + i) _ (by omega) (by omega), e32 (96 + i) _ (by omega) (by omega)]; exact h.1.2.1.2.1 i k hi hk
  · rw [e32 38 _ (by omega) (by omega), e32 39 _ (by omega) (by omega)]; exact h.1.2.1.2.2.2 k hk
  · rw [e32 40 _ (by omega) (by omega), e32 41 _ (by omega) (by omega), e32 42 _ (by omega) (by omega), e32 43 _ (by omega) (by omega), eo 14 k (by omega) (by omega) (by omega) (by omega) (by omega) (by omega) (by omega) (by omega) (by omega) (by omega) (by omega) (by omega) (by omega) (by omega) (by omega) (by omega), eo 15 k (by omega) (by omega) (by omega) (by omega) (by omega) (by omega) (by omega) (by omega) (by omega) (by omega) (by omega) (by omega) (by omega) (by omega) (by omega) (by omega), eo 16 k (by omega) (by omega) (by omega) (by omega) (by omega) (by omega) (by omega) (by omega) (by omega) (by omega) (by omega) (by omega) (by omega) (by omega) (by omega) (by omega), eo 17 k (by omega) (by omega) (by omega) (by omega) (by omega) (by omega) (by omega) (by omega) (by omega) (by omega) (by omega) (by omega) (by omega) (by omega) (by omega) (by omega)]; exact h.1.2.2.2 k hk
  · rw [if_neg (by omega), if_neg (by omega), i3 47 _ (by omega), i3 (112 + i) _ (by omega)]; exact h.2.1 i j hi hj0 hj
  · rw [uo 5 b (by omega)]; exact p5 b q1 q2
  · rw [uo 25 i (by omega)]; exact p25 i hi
  · exact u1 i (by omega) hi
  · rw [uo (128 + i) j (by omega)]; exact p128 i j hi hj
  · rw [e32 44 k (by omega) (by omega), uo 18 k (by omega), p18, if_neg (by omega), i2 18 k (by omega) (by omega) (by omega)]; exact h.2.2.1.2.2.2.2.1 k hk
  · rw [e32 50 k (by omega) (by omega)]; exact h.2.2.1.2.2.2.2.2 k hk
  · rw [uo 6 2 (by omega), p62]; rfl
  · rw [uo 4 1 (by omega), p41]; exact vp_in_nI (by omega) (by omega)
  · rw [uo 4 2 (by omega)]; exact ⟨n, by omega, p42⟩
  · rw [uo 22 i (by omega), p22 i hi]; exact vp_in_nI (by omega) (by omega)
  · rw [uo 6 2 (by omega)]; exact ⟨0, by omega, p62⟩
  · rw [uo 28 k (by omega), p28, if_neg (by omega), i2 28 k (by omega) (by omega) (by omega)]; exact h.2.2.2.2.2.2.2.1 k hk
  · rw [uo 29 v (by omega), p29, if_neg (by omega), i2 29 v (by omega) (by omega) (by omega)]; exact h.2.2.2.2.2.2.2.2 v hv
theorem zJ_0 (n r : Nat) (h1 : 1 ≤ n) (hn : n ≤ 16) (hr1 : 1 ≤ r) (hr : r ≤ 1000) : zJ n (q_clear (zj_m1 n r) (zj_l0 n r)).1 (q_clear (zj_m1 n r) (zj_l0 n r)).2 := by
  obtain ⟨i1, i4, i5, i2, i3⟩ := p_reset_is hn (n + 1) 0 (zw_up (zw_up (fun _ _ => 0) 1 0 (nI n)) 1 1 (nI r)) (fun _ _ => 0) (by omega) (by omega)
  rw [show nI 0 = (0 : Int32) from rfl] at i1 i4 i5 i2 i3
  have e0 : (p_reset n (n + 1) 0 (zw_up (zw_up (fun _ _ => 0) 1 0 (nI n)) 1 1 (nI r)) (fun _ _ => 0)).1 = zj_m0 n r := rfl
  have e1 : (p_reset n (n + 1) 0 (zw_up (zw_up (fun _ _ => 0) 1 0 (nI n)) 1 1 (nI r)) (fun _ _ => 0)).2 = zj_l0 n r := rfl
  rw [e0] at i1 i4 i5 i2
  rw [e1] at i1 i3
  have up : ∀ a b, a ≠ 32 → zj_m1 n r a b = zj_m0 n r a b := fun a b h => by
    unfold zj_m1
    rw [zw_up_ne1 _ _ _ h, zw_up_ne1 _ _ _ h]
  have z : ∀ a b, a ≠ 1 → a ≠ 3 → a ≠ 7 → a ≠ 8 → a ≠ 10 → a ≠ 32 → zj_m1 n r a b = 0 := fun a b c1 c2 c3 c4 c5 c6 => by
    rw [up a b c6, i2 a b (by omega) (by omega) (by omega), zw_up_ne1 _ _ _ c1, zw_up_ne1 _ _ _ c1]
  have zL : ∀ a b, a ≠ 9 → zj_l0 n r a b = 0 := fun a b c1 => i3 a b (Or.inl c1)
  have v0 : ∀ {N : Nat}, 1 ≤ N → N ≤ 1000 → vp_in (0 : Int32) N := fun {N} c1 c2 => vp_in_nI (n := 0) (by omega) (by omega)
  refine zJ_clr h1 hn hr1 hr ?_ ?_ ?_ ?_ ?_ (fun i hi => ⟨?_, ?_, ?_, ?_⟩) ?_ (fun i k hi hk => ?_) (fun k hk => ?_) (fun k hk => ?_) (fun i j hi hj0 hj => ?_) (fun b q1 q2 => ?_) (fun i hi => ⟨?_, ?_⟩) (fun i j hi hj => ?_) (fun k hk => ?_) (fun k hk => ?_) ?_ ⟨?_, ?_, fun i hi => ?_⟩ ⟨?_, fun k hk => ?_, fun v hv => ?_⟩
  · rw [up 1 0 (by omega), i2 1 0 (by omega) (by omega) (by omega), zw_up_ne2 _ _ _ (by decide), zw_up_self]
  · unfold zj_m1; rw [zw_up_ne2 _ _ _ (by decide), zw_up_self]
  · rw [up 1 1 (by omega), i2 1 1 (by omega) (by omega) (by omega), zw_up_self]
  · unfold zj_m1; rw [zw_up_self]
  · rw [up 1 7 (by omega)]; exact i5
  · rw [up 7 i (by omega)]; exact (i1 i (by omega) hi).1
  · rw [up 8 i (by omega)]; exact (i1 i (by omega) hi).2.1
  · rw [up 10 i (by omega)]; exact (i1 i (by omega) hi).2.2.1
  · exact (i1 i (by omega) hi).2.2.2
  · rw [up 3 5 (by omega)]; exact i4
  · rw [z 37 _ (by omega) (by omega) (by omega) (by omega) (by omega) (by omega), z 38 _ (by omega) (by omega) (by omega) (by omega) (by omega) (by omega), z 39 _ (by omega) (by omega) (by omega) (by omega) (by omega) (by omega), z (64 + i) _ (by omega) (by omega) (by omega) (by omega) (by omega) (by omega), z (80 + i) _ (by omega) (by omega) (by omega) (by omega) (by omega) (by omega), z (96 + i) _ (by omega) (by omega) (by omega) (by omega) (by omega) (by omega)]
    exact ⟨rfl, rfl, rfl, v0 (by omega) (by omega), v0 (by omega) (by omega)⟩
  · rw [z 38 _ (by omega) (by omega) (by omega) (by omega) (by omega) (by omega), z 39 _ (by omega) (by omega) (by omega) (by omega) (by omega) (by omega)]
    exact ⟨v0 (by omega) (by omega), v0 (by omega) (by omega)⟩
  · rw [z 40 _ (by omega) (by omega) (by omega) (by omega) (by omega) (by omega), z 41 _ (by omega) (by omega) (by omega) (by omega) (by omega) (by omega), z 42 _ (by omega) (by omega) (by omega) (by omega) (by omega) (by omega), z 43 _ (by omega) (by omega) (by omega) (by omega) (by omega) (by omega), z 14 _ (by omega) (by omega) (by omega) (by omega) (by omega) (by omega), z 15 _ (by omega) (by omega) (by omega) (by omega) (by omega) (by omega), z 16 _ (by omega) (by omega) (by omega) (by omega) (by omega) (by omega), z 17 _ (by omega) (by omega) (by omega) (by omega) (by omega) (by omega)]
    exact ⟨rfl, rfl, rfl, rfl⟩
  · rw [zL 47 _ (by omega), zL (112 + i) _ (by omega)]
  · exact z 5 b (by omega) (by omega) (by omega) (by omega) (by omega) (by omega)
  · exact z 25 i (by omega) (by omega) (by omega) (by omega) (by omega) (by omega)
  · exact z 20 i (by omega) (by omega) (by omega) (by omega) (by omega) (by omega)
  · exact z (128 + i) j (by omega) (by omega) (by omega) (by omega) (by omega) (by omega)
  · rw [z 44 _ (by omega) (by omega) (by omega) (by omega) (by omega) (by omega), z 18 _ (by omega) (by omega) (by omega) (by omega) (by omega) (by omega)]
  · rw [z 50 _ (by omega) (by omega) (by omega) (by omega) (by omega) (by omega)]; exact v0 (by omega) (by omega)
  · exact z 6 2 (by omega) (by omega) (by omega) (by omega) (by omega) (by omega)
  · rw [z 4 1 (by omega) (by omega) (by omega) (by omega) (by omega) (by omega)]; exact v0 (by omega) (by omega)
  · rw [z 4 2 (by omega) (by omega) (by omega) (by omega) (by omega) (by omega)]; exact ⟨0, by omega, rfl⟩
  · rw [z 22 i (by omega) (by omega) (by omega) (by omega) (by omega) (by omega)]; exact v0 (by omega) (by omega)
  · rw [z 6 2 (by omega) (by omega) (by omega) (by omega) (by omega) (by omega)]; exact ⟨0, by omega, rfl⟩
  · rw [z 28 k (by omega) (by omega) (by omega) (by omega) (by omega) (by omega)]; exact v0 (by omega) (by omega)
  · rw [z 29 v (by omega) (by omega) (by omega) (by omega) (by omega) (by omega)]; exact Or.inr (v0 (by omega) (by omega))
theorem zA_all (n : Nat) : zl_Ag n (zJ n) := ⟨zA_share, zA_need, zA_free, zA_failing, zA_stop, zA_run, zA_at, zA_order, zA_begun, zA_waited, zA_sh, zA_told, zA_clear⟩
