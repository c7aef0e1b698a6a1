/-! what the loops that set things leave -/
theorem p_prepW_is {n i : Nat} (hn : n ≤ 16) : ∀ (f k : Nat) (mi : zw_I), k ≤ n → n < k + f → p_prepW n i f (nI k) mi = fun a b => if a = 128 + i ∧ k ≤ b ∧ b < n then 0 else mi a b
  | 0, k, mi, h1, h2 => by omega
  | f + 1, k, mi, h1, h2 => by
    rw [p_prepW]
    by_cases c : nI n ≤ nI k
    · have := zn_le (by omega) (by omega) c
      rw [if_pos c]
      funext a b
      rw [if_neg (by omega)]
    · have hk := zn_lt (by omega) c
      rw [if_neg c, nI_1, nI_clamp (by omega), p_prepW_is hn f (k + 1) _ (by omega) (by omega)]
      funext a b
      simp only [zw_up]
      repeat' split
      all_goals first | rfl | (exfalso; omega)
theorem p_prepA_is {n : Nat} (hn : n ≤ 16) : ∀ (f k : Nat) (mi : zw_I) (ml : zw_L), k ≤ n → n < k + f → (p_prepA n f (nI k) mi ml).1 = (fun a b => if (a = 23 ∨ a = 25) ∧ k ≤ b ∧ b < n then 0 else if 128 + k ≤ a ∧ a < 128 + n ∧ b < n then 0 else mi a b) ∧ (p_prepA n f (nI k) mi ml).2 = fun a b => if 112 + k ≤ a ∧ a < 112 + n ∧ b = 0 then ml 9 (a - 112) else ml a b
  | 0, k, mi, ml, h1, h2 => by omega
  | f + 1, k, mi, ml, h1, h2 => by
    rw [p_prepA]
    by_cases c : nI n ≤ nI k
    · have := zn_le (by omega) (by omega) c
      rw [if_pos c]
      refine ⟨?_, ?_⟩
      · funext a b
        rw [if_neg (by omega), if_neg (by omega)]
      · funext a b
        rw [if_neg (by omega)]
    · have hk := zn_lt (by omega) c
      have ew := p_prepW_is (i := k) hn (n + 1) 0 (zw_up (zw_up mi 23 k 0) 25 k 0) (by omega) (by omega)
      rw [show nI 0 = (0 : Int32) from rfl] at ew
      rw [if_neg c, nI_1, nI_clamp (by omega), show (0 : Int32).toNatClampNeg = 0 from rfl, ew]
      obtain ⟨i1, i2⟩ := p_prepA_is hn f (k + 1) (fun a b => if a = 128 + k ∧ 0 ≤ b ∧ b < n then 0 else zw_up (zw_up mi 23 k 0) 25 k 0 a b) (zw_up ml (112 + k) 0 (ml 9 k)) (by omega) (by omega)
      refine ⟨i1.trans ?_, i2.trans ?_⟩
      · funext a b
        simp only [zw_up]
        repeat' split
        all_goals first | rfl | (exfalso; omega)
      · funext a b
        simp only [zw_up]
        repeat' split
        all_goals first | rfl | (exfalso; omega) | (congr 1; omega)
theorem p_fill_is {n : Nat} (hn : n ≤ 16) : ∀ (f k : Nat) (mi : zw_I), k ≤ n → n < k + f → p_fill n f (nI k) mi = fun a b => if a = 22 ∧ k ≤ b ∧ b < n then nI b else if a = 4 ∧ b = 1 then 0 else if a = 4 ∧ b = 2 then nI n else mi a b
  | 0, k, mi, h1, h2 => by omega
  | f + 1, k, mi, h1, h2 => by
    rw [p_fill]
    by_cases c : nI n ≤ nI k
    · have := zn_le (by omega) (by omega) c
      rw [if_pos c]
      funext a b
      simp only [zw_up]
      repeat' split
      all_goals first | rfl | (exfalso; omega)
    · have hk := zn_lt (by omega) c
      rw [if_neg c, nI_1, nI_clamp (by omega), p_fill_is hn f (k + 1) _ (by omega) (by omega)]
      funext a b
      simp only [zw_up]
      repeat' split
      all_goals first | rfl | (exfalso; omega) | (congr 1; omega)
theorem p_gather_is {w : Nat} (hw : w ≤ 16) : ∀ (f k : Nat) (mi : zw_I), k ≤ w → w < k + f → p_gather (nI w) f (nI k) mi = fun a b => if a = 28 ∧ k ≤ b ∧ b < w then nI b else if a = 29 ∧ k ≤ b ∧ b < w then -1 else if a = 6 ∧ b = 2 then nI w else mi a b
  | 0, k, mi, h1, h2 => by omega
  | f + 1, k, mi, h1, h2 => by
    rw [p_gather]
    by_cases c : nI w ≤ nI k
    · have := zn_le (by omega) (by omega) c
      rw [if_pos c]
      funext a b
      simp only [zw_up]
      repeat' split
      all_goals first | rfl | (exfalso; omega)
    · have hk := zn_lt (by omega) c
      rw [if_neg c, nI_1, nI_clamp (by omega), p_gather_is hw f (k + 1) _ (by omega) (by omega)]
      funext a b
      simp only [zw_up]
      repeat' split
      all_goals first | rfl | (exfalso; omega) | (congr 1; omega)
theorem p_renew_is {c : Nat} (hc : c ≤ 8) : ∀ (f k : Nat) (mi : zw_I), mi 3 5 = nI c → k ≤ c → c < k + f → p_renew f (nI k) mi = fun a b => if a = 18 ∧ k ≤ b ∧ b < c then mi 17 b else mi a b
  | 0, k, mi, e, h1, h2 => by omega
  | f + 1, k, mi, e, h1, h2 => by
    rw [p_renew, e]
    by_cases c1 : nI c ≤ nI k
    · have := zn_le (by omega) (by omega) c1
      rw [if_pos c1]
      funext a b
      rw [if_neg (by omega)]
    · have hk := zn_lt (by omega) c1
      rw [if_neg c1, nI_1, nI_clamp (by omega), p_renew_is hc f (k + 1) _ (by rw [zw_up_ne1 _ _ _ (by decide)]; exact e) (by omega) (by omega)]
      funext a b
      simp only [zw_up]
      repeat' split
      all_goals first | rfl | (exfalso; omega) | (congr 1; omega)
theorem p_zero_is (m : zw_I) : p_zero m = fun a b => if a = 5 ∧ 8 ≤ b ∧ b ≤ 14 then 0 else m a b := by
  funext a b
  unfold p_zero
  simp only [zw_up]
  repeat' split
  all_goals first | rfl | (exfalso; omega)
theorem q_beg5_is {n w : Nat} (m : zw_I) (en : m 32 1 = nI n) : q_beg5 (nI w) m = fun a b => if a = 32 then (if b = 23 then nI n else if b = 25 then nI w else if b = 24 ∨ (29 ≤ b ∧ b ≤ 34) then 0 else m 32 b) else m a b := by
  funext a b
  unfold q_beg5
  rw [en]
  simp only [zw_up]
  repeat' split
  all_goals first | rfl | (exfalso; omega) | (rename_i h; subst_vars; rfl) | (subst_vars; rfl)
theorem p_prep_is {n w c : Nat} (hn : n ≤ 16) (hw : w ≤ 16) (hc : c ≤ 8) (mi : zw_I) (ml : zw_L) (ec : mi 3 5 = nI c) : ∃ P : zw_I, (p_prep n (nI w) mi ml).1 = P ∧ (∀ b, 8 ≤ b → b ≤ 14 → P 5 b = 0) ∧ (∀ b, P 18 b = if b < c then mi 17 b else mi 18 b) ∧ (∀ b, P 28 b = if b < w then nI b else mi 28 b) ∧ (∀ b, P 29 b = if b < w then -1 else mi 29 b) ∧ P 6 2 = nI w ∧ (∀ b, b < n → P 22 b = nI b) ∧ P 4 1 = nI 0 ∧ P 4 2 = nI n ∧ (∀ b, b < n → P 23 b = nI 0) ∧ (∀ b, b < n → P 25 b = 0) ∧ (∀ i j, i < n → j < n → P (128 + i) j = 0) ∧
    (∀ a b, a ≠ 4 → a ≠ 5 → a ≠ 6 → a ≠ 18 → a ≠ 22 → a ≠ 23 → a ≠ 25 → a ≠ 28 → a ≠ 29 → a < 128 → P a b = mi a b) ∧
    (p_prep n (nI w) mi ml).2 = fun a b => if 112 + 0 ≤ a ∧ a < 112 + n ∧ b = 0 then ml 9 (a - 112) else ml a b := by
  unfold p_prep p_prepZ
  obtain ⟨a1, a2⟩ := p_prepA_is hn (n + 1) 0 mi ml (by omega) (by omega)
  rw [show nI 0 = (0 : Int32) from rfl] at a1 a2
  have f1 := p_fill_is hn (n + 1) 0 (p_prepA n (n + 1) 0 mi ml).1 (by omega) (by omega)
  rw [show nI 0 = (0 : Int32) from rfl] at f1
  have g1 := p_gather_is hw 17 0 (p_fill n (n + 1) 0 (p_prepA n (n + 1) 0 mi ml).1) (by omega) (by omega)
  rw [show nI 0 = (0 : Int32) from rfl] at g1
  have k1 := p_renew_is hc 9 0 (p_gather (nI w) 17 0 (p_fill n (n + 1) 0 (p_prepA n (n + 1) 0 mi ml).1)) (by rw [p_gather_off (by decide) (by decide) (by decide), p_fill_off (by decide) (by decide), p_prepA_off (by decide) (by decide) (by decide)]; exact ec) (by omega) (by omega)
  rw [show nI 0 = (0 : Int32) from rfl] at k1
  obtain ⟨A, eA⟩ : ∃ y, y = (p_prepA n (n + 1) 0 mi ml).1 := ⟨_, rfl⟩
  rw [← eA] at a1 f1 g1 k1
  obtain ⟨B, eB⟩ : ∃ y, y = p_fill n (n + 1) 0 A := ⟨_, rfl⟩
  rw [← eB] at f1 g1 k1
  obtain ⟨C, eC⟩ : ∃ y, y = p_gather (nI w) 17 0 B := ⟨_, rfl⟩
  rw [← eC] at g1 k1
  refine ⟨p_zero (p_renew 9 0 C), by dsimp only; rw [← eA, ← eB, ← eC], ?_⟩
  rw [k1, p_zero_is]
  have hA : ∀ a b, A a b = if (a = 23 ∨ a = 25) ∧ 0 ≤ b ∧ b < n then 0 else if 128 + 0 ≤ a ∧ a < 128 + n ∧ b < n then 0 else mi a b := fun a b => congrFun (congrFun a1 a) b
  have hB : ∀ a b, B a b = if a = 22 ∧ 0 ≤ b ∧ b < n then nI b else if a = 4 ∧ b = 1 then 0 else if a = 4 ∧ b = 2 then nI n else A a b := fun a b => congrFun (congrFun f1 a) b
  have hC : ∀ a b, C a b = if a = 28 ∧ 0 ≤ b ∧ b < w then nI b else if a = 29 ∧ 0 ≤ b ∧ b < w then -1 else if a = 6 ∧ b = 2 then nI w else B a b := fun a b => congrFun (congrFun g1 a) b
  clear eA eB eC a1 f1 g1 k1
  dsimp only
  refine ⟨fun b h1 h2 => if_pos ⟨rfl, h1, h2⟩, fun b => ?_, fun b => ?_, fun b => ?_, ?_, fun b hb => ?_, ?_, ?_, fun b hb => ?_, fun b hb => ?_, fun i j hi hj => ?_, fun a b q1 q2 q3 q4 q5 q6 q7 q8 q9 q10 => ?_, a2⟩
  · rw [if_neg (by omega)]
    have e17 : C 17 b = mi 17 b := by rw [hC, if_neg (by omega), if_neg (by omega), if_neg (by omega), hB, if_neg (by omega), if_neg (by omega), if_neg (by omega), hA, if_neg (by omega), if_neg (by omega)]
    have e18 : C 18 b = mi 18 b := by rw [hC, if_neg (by omega), if_neg (by omega), if_neg (by omega), hB, if_neg (by omega), if_neg (by omega), if_neg (by omega), hA, if_neg (by omega), if_neg (by omega)]
    rw [e17, e18]
    by_cases c1 : b < c
    · rw [if_pos (by omega), if_pos c1]
    · rw [if_neg (by omega), if_neg c1]
  · rw [if_neg (by omega), if_neg (by omega), hC]
    by_cases c1 : b < w
    · rw [if_pos (by omega), if_pos c1]
    · rw [if_neg (by omega), if_neg (by omega), if_neg (by omega), if_neg c1, hB, if_neg (by omega), if_neg (by omega), if_neg (by omega), hA, if_neg (by omega), if_neg (by omega)]
  · rw [if_neg (by omega), if_neg (by omega), hC, if_neg (by omega)]
    by_cases c1 : b < w
    · rw [if_pos (by omega), if_pos c1]
    · rw [if_neg (by omega), if_neg (by omega), if_neg c1, hB, if_neg (by omega), if_neg (by omega), if_neg (by omega), hA, if_neg (by omega), if_neg (by omega)]
  · rw [if_neg (by omega), if_neg (by omega), hC, if_neg (by omega), if_neg (by omega), if_pos ⟨rfl, rfl⟩]
  · rw [if_neg (by omega), if_neg (by omega), hC, if_neg (by omega), if_neg (by omega), if_neg (by omega), hB, if_pos (by omega)]
  · rw [if_neg (by omega), if_neg (by omega), hC, if_neg (by omega), if_neg (by omega), if_neg (by omega), hB, if_neg (by omega), if_pos (by omega)]
    rfl
  · rw [if_neg (by omega), if_neg (by omega), hC, if_neg (by omega), if_neg (by omega), if_neg (by omega), hB, if_neg (by omega), if_neg (by omega), if_pos (by omega)]
  · rw [if_neg (by omega), if_neg (by omega), hC, if_neg (by omega), if_neg (by omega), if_neg (by omega), hB, if_neg (by omega), if_neg (by omega), if_neg (by omega), hA, if_pos (by omega)]
    rfl
  · rw [if_neg (by omega), if_neg (by omega), hC, if_neg (by omega), if_neg (by omega), if_neg (by omega), hB, if_neg (by omega), if_neg (by omega), if_neg (by omega), hA, if_pos (by omega)]
  · rw [if_neg (by omega), if_neg (by omega), hC, if_neg (by omega), if_neg (by omega), if_neg (by omega), hB, if_neg (by omega), if_neg (by omega), if_neg (by omega), hA, if_neg (by omega), if_pos (by omega)]
  · rw [if_neg (by omega), if_neg (by omega), hC, if_neg (by omega), if_neg (by omega), if_neg (by omega), hB, if_neg (by omega), if_neg (by omega), if_neg (by omega), hA, if_neg (by omega), if_neg (by omega)]
theorem q_beg1_is {n : Nat} (hn : n ≤ 16) : ∀ (f k : Nat) (qi : zw_I) (ql : zw_L), qi 32 1 = nI n → k ≤ n → n < k + f → (q_beg1 f (nI k) qi ql).1 = (fun a b => if (a = 48 ∨ a = 52) ∧ k ≤ b ∧ b < n then 0 else if a = 50 ∧ k ≤ b ∧ b < n then nI b else qi a b) ∧ (∀ i : Nat, k ≤ i → i < n → (q_beg1 f (nI k) qi ql).2 47 (21 * i) = ql 35 i) ∧ ∀ a b, (a = 47 → ∀ i : Nat, k ≤ i → i < n → b ≠ 21 * i) → (q_beg1 f (nI k) qi ql).2 a b = ql a b
  | 0, k, qi, ql, e, h1, h2 => by omega
  | f + 1, k, qi, ql, e, h1, h2 => by
    rw [q_beg1, e]
    by_cases c : nI n ≤ nI k
    · have := zn_le (by omega) (by omega) c
      rw [if_pos c]
      refine ⟨?_, fun i h3 h4 => by omega, fun a b h => rfl⟩
      funext a b
      rw [if_neg (by omega), if_neg (by omega)]
    · have hk := zn_lt (by omega) c
      rw [if_neg c, nI_1, nI_clamp (by omega), show (21 : Int32) = nI 21 from rfl, pk_mul, nI_clamp (by omega)]
      obtain ⟨i1, i2, i3⟩ := q_beg1_is hn f (k + 1) (zw_up (zw_up (zw_up qi 48 k 0) 52 k 0) 50 k (nI k)) (zw_up ql 47 (21 * k) (ql 35 k)) (by rw [zw_up_ne1 _ _ _ (by decide), zw_up_ne1 _ _ _ (by decide), zw_up_ne1 _ _ _ (by decide)]; exact e) (by omega) (by omega)
      refine ⟨i1.trans ?_, fun i h3 h4 => ?_, fun a b h => ?_⟩
      · funext a b
        simp only [zw_up]
        repeat' split
        all_goals first | rfl | (exfalso; omega) | (congr 1; omega)
      · by_cases ei : i = k
        · subst ei
          rw [i3 47 (21 * i) (fun _ u h5 h6 => by omega), zw_up_self]
        · rw [i2 i (by omega) h4, zw_up_ne1 _ _ _ (by decide)]
      · rw [i3 a b (fun ea u h5 h6 => h ea u (by omega) h6)]
        by_cases ea : a = 47
        · rw [zw_up_ne2 _ _ _ (h ea k (by omega) hk)]
        · rw [zw_up_ne1 _ _ _ ea]
theorem q_beg2_is : ∀ (f k : Nat) (qi : zw_I), k ≤ 256 → 256 < k + f → q_beg2 f (nI k) qi = fun a b => if a = 53 ∧ k ≤ b ∧ b < 256 then 0 else qi a b
  | 0, k, qi, h1, h2 => by omega
  | f + 1, k, qi, h1, h2 => by
    rw [q_beg2, show (256 : Int32) = nI 256 from rfl]
    by_cases c : nI 256 ≤ nI k
    · have := zn_le (by omega) (by omega) c
      rw [if_pos c]
      funext a b
      rw [if_neg (by omega)]
    · have hk := zn_lt (by omega) c
      rw [if_neg c, nI_1, nI_clamp (by omega), q_beg2_is f (k + 1) _ (by omega) (by omega)]
      funext a b
      simp only [zw_up]
      repeat' split
      all_goals first | rfl | (exfalso; omega)
theorem q_beg3_is {w : Nat} (hw : w ≤ 16) : ∀ (f k : Nat) (qi : zw_I), k ≤ w → w < k + f → q_beg3 (nI w) f (nI k) qi = fun a b => if a = 49 ∧ k ≤ b ∧ b < w then -1 else qi a b
  | 0, k, qi, h1, h2 => by omega
  | f + 1, k, qi, h1, h2 => by
    rw [q_beg3]
    by_cases c : nI w ≤ nI k
    · have := zn_le (by omega) (by omega) c
      rw [if_pos c]
      funext a b
      rw [if_neg (by omega)]
    · have hk := zn_lt (by omega) c
      rw [if_neg c, nI_1, nI_clamp (by omega), q_beg3_is hw f (k + 1) _ (by omega) (by omega)]
      funext a b
      simp only [zw_up]
      repeat' split
      all_goals first | rfl | (exfalso; omega)
theorem q_beg4_is {c : Nat} (hc : c ≤ 8) : ∀ (f k : Nat) (qi : zw_I), qi 32 15 = nI c → k ≤ c → c < k + f → q_beg4 f (nI k) qi = fun a b => if a = 44 ∧ k ≤ b ∧ b < c then qi 43 b else qi a b
  | 0, k, qi, e, h1, h2 => by omega
  | f + 1, k, qi, e, h1, h2 => by
    rw [q_beg4, e]
    by_cases c1 : nI c ≤ nI k
    · have := zn_le (by omega) (by omega) c1
      rw [if_pos c1]
      funext a b
      rw [if_neg (by omega)]
    · have hk := zn_lt (by omega) c1
      rw [if_neg c1, nI_1, nI_clamp (by omega), q_beg4_is hc f (k + 1) _ (by rw [zw_up_ne1 _ _ _ (by decide)]; exact e) (by omega) (by omega)]
      funext a b
      simp only [zw_up]
      repeat' split
      all_goals first | rfl | (exfalso; omega) | (congr 1; omega)
theorem q_begin_is {n w c : Nat} (hn : n ≤ 16) (hw : w ≤ 16) (hc : c ≤ 8) (qi : zw_I) (ql : zw_L) (en : qi 32 1 = nI n) (ec : qi 32 15 = nI c) : ∃ P : zw_I, (q_begin (nI w) qi ql).1 = P ∧ P 32 23 = nI n ∧ P 32 25 = nI w ∧ (∀ b, b = 24 ∨ (29 ≤ b ∧ b ≤ 34) → P 32 b = 0) ∧ (∀ b, b ≠ 23 → b ≠ 24 → b ≠ 25 → ¬ (29 ≤ b ∧ b ≤ 34) → P 32 b = qi 32 b) ∧ (∀ b, P 44 b = if b < c then qi 43 b else qi 44 b) ∧ (∀ b, b < w → P 49 b = -1) ∧ (∀ b, b < 256 → P 53 b = 0) ∧ (∀ b, b < n → P 48 b = nI 0) ∧ (∀ b, b < n → P 52 b = 0) ∧ (∀ b, P 50 b = if b < n then nI b else qi 50 b) ∧
    (∀ a b, a ≠ 32 → a ≠ 44 → a ≠ 48 → a ≠ 49 → a ≠ 50 → a ≠ 52 → a ≠ 53 → P a b = qi a b) ∧ (∀ i : Nat, i < n → (q_begin (nI w) qi ql).2 47 (21 * i) = ql 35 i) ∧ ∀ a b, (a = 47 → ∀ i : Nat, i < n → b ≠ 21 * i) → (q_begin (nI w) qi ql).2 a b = ql a b := by
  obtain ⟨a1, a2, a3⟩ := q_beg1_is hn 17 0 qi ql en (by omega) (by omega)
  rw [show nI 0 = (0 : Int32) from rfl] at a1 a2 a3
  have b1 := q_beg2_is 257 0 (q_beg1 17 0 qi ql).1 (by omega) (by omega)
  rw [show nI 0 = (0 : Int32) from rfl] at b1
  have c1 := q_beg3_is hw 17 0 (q_beg2 257 0 (q_beg1 17 0 qi ql).1) (by omega) (by omega)
  rw [show nI 0 = (0 : Int32) from rfl] at c1
  have e1 : (q_beg1 17 0 qi ql).1 32 15 = nI c := by rw [a1]; exact ec
  have e2 : (q_beg1 17 0 qi ql).1 32 1 = nI n := by rw [a1]; exact en
  have d1 := q_beg4_is hc 9 0 (q_beg3 (nI w) 17 0 (q_beg2 257 0 (q_beg1 17 0 qi ql).1)) (by rw [q_beg3_off (by decide), q_beg2_off (by decide)]; exact e1) (by omega) (by omega)
  rw [show nI 0 = (0 : Int32) from rfl] at d1
  obtain ⟨A, eA⟩ : ∃ y, y = (q_beg1 17 0 qi ql).1 := ⟨_, rfl⟩
  rw [← eA] at a1 b1 c1 d1 e2
  obtain ⟨B, eB⟩ : ∃ y, y = q_beg2 257 0 A := ⟨_, rfl⟩
  rw [← eB] at b1 c1 d1
  obtain ⟨C, eC⟩ : ∃ y, y = q_beg3 (nI w) 17 0 B := ⟨_, rfl⟩
  rw [← eC] at c1 d1
  obtain ⟨E, eE⟩ : ∃ y, y = q_beg4 9 0 C := ⟨_, rfl⟩
  rw [← eE] at d1
  have hA : ∀ a b, A a b = if (a = 48 ∨ a = 52) ∧ 0 ≤ b ∧ b < n then 0 else if a = 50 ∧ 0 ≤ b ∧ b < n then nI b else qi a b := fun a b => congrFun (congrFun a1 a) b
  have hB : ∀ a b, B a b = if a = 53 ∧ 0 ≤ b ∧ b < 256 then 0 else A a b := fun a b => congrFun (congrFun b1 a) b
  have hC : ∀ a b, C a b = if a = 49 ∧ 0 ≤ b ∧ b < w then -1 else B a b := fun a b => congrFun (congrFun c1 a) b
  have hE : ∀ a b, E a b = if a = 44 ∧ 0 ≤ b ∧ b < c then C 43 b else C a b := fun a b => congrFun (congrFun d1 a) b
  have h32 : ∀ b, E 32 b = qi 32 b := fun b => by rw [hE, if_neg (by omega), hC, if_neg (by omega), hB, if_neg (by omega), hA, if_neg (by omega), if_neg (by omega)]
  have hP : ∀ a b, q_beg5 (nI w) E a b = if a = 32 then (if b = 23 then nI n else if b = 25 then nI w else if b = 24 ∨ (29 ≤ b ∧ b ≤ 34) then 0 else E 32 b) else E a b := fun a b => congrFun (congrFun (q_beg5_is (n := n) E (by rw [h32]; exact en)) a) b
  refine ⟨q_beg5 (nI w) E, ?_, ?_, ?_, fun b hb => ?_, fun b h1 h2 h3 h4 => ?_, fun b => ?_, fun b hb => ?_, fun b hb => ?_, fun b hb => ?_, fun b hb => ?_, fun b => ?_, fun a b q1 q2 q3 q4 q5 q6 q7 => ?_, fun i hi => a2 i (by omega) hi, fun a b h => a3 a b (fun ea i _ hi => h ea i hi)⟩
  · show q_begZ (nI w) (q_beg1 17 0 qi ql).1 = _
    unfold q_begZ
    rw [← eA, ← eB, ← eC, ← eE]
  · rw [hP, if_pos rfl, if_pos rfl]
  · rw [hP, if_pos rfl, if_neg (by omega), if_pos rfl]
  · rw [hP, if_pos rfl, if_neg (by omega), if_neg (by omega), if_pos hb]
  · rw [hP, if_pos rfl, if_neg h1, if_neg h3, if_neg (by omega), h32]
  · have e43 : C 43 b = qi 43 b := by rw [hC, if_neg (by omega), hB, if_neg (by omega), hA, if_neg (by omega), if_neg (by omega)]
    have e44 : C 44 b = qi 44 b := by rw [hC, if_neg (by omega), hB, if_neg (by omega), hA, if_neg (by omega), if_neg (by omega)]
    rw [hP, if_neg (by omega), hE, e43, e44]
    by_cases c2 : b < c
    · rw [if_pos (by omega), if_pos c2]
    · rw [if_neg (by omega), if_neg c2]
  · rw [hP, if_neg (by omega), hE, if_neg (by omega), hC, if_pos (by omega)]
  · rw [hP, if_neg (by omega), hE, if_neg (by omega), hC, if_neg (by omega), hB, if_pos (by omega)]
  · rw [hP, if_neg (by omega), hE, if_neg (by omega), hC, if_neg (by omega), hB, if_neg (by omega), hA, if_pos (by omega)]
    rfl
  · rw [hP, if_neg (by omega), hE, if_neg (by omega), hC, if_neg (by omega), hB, if_neg (by omega), hA, if_pos (by omega)]
  · rw [hP, if_neg (by omega), hE, if_neg (by omega), hC, if_neg (by omega), hB, if_neg (by omega), hA, if_neg (by omega)]
    by_cases c2 : b < n
    · rw [if_pos (by omega), if_pos c2]
    · rw [if_neg (by omega), if_neg c2]
  · rw [hP, if_neg (by omega), hE, if_neg (by omega), hC, if_neg (by omega), hB, if_neg (by omega), hA, if_neg (by omega), if_neg (by omega)]
