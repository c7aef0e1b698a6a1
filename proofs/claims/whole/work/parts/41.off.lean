/-! what runs leave alone -/
def zf_x (a : Nat) : Prop := a ≠ 4 ∧ a ≠ 5 ∧ a ≠ 6 ∧ a ≠ 18 ∧ a ≠ 22 ∧ a ≠ 23 ∧ a ≠ 25 ∧ a ≠ 27 ∧ a ≠ 28 ∧ a ≠ 29 ∧ a < 128
def zf_q (a b : Nat) : Prop := (a ≠ 32 ∨ b < 23 ∨ b = 35) ∧ a ≠ 44 ∧ a ≠ 48 ∧ a ≠ 49 ∧ a ≠ 50 ∧ a ≠ 51 ∧ a ≠ 52 ∧ a ≠ 53
theorem p_tick_off {n a b : Nat} (h : zf_x a) (wk : Int32) (mi : zw_I) (ml : zw_L) : (p_tick n wk mi ml).2.1 a b = mi a b := by
  obtain ⟨h4, h5, h6, h18, h22, h23, h25, h27, h28, h29, h128⟩ := h
  unfold p_tick
  split
  · rfl
  · unfold p_tick2
    split
    · unfold p_take
      split
      · exact zw_up_ne1 _ _ _ h5
      · show p_take1 n wk mi a b = mi a b
        have hd : p_drop n mi a b = mi a b := by
          unfold p_drop p_drop1
          split
          · rfl
          · rw [zw_up_ne1 _ _ _ h4, zw_up_ne1 _ _ _ h4]
        unfold p_take1 p_take2 p_take3 p_take4
        rw [zw_up_ne1 _ _ _ h5, zw_up_ne1 _ _ _ h5, zw_up_ne1 _ _ _ h25, zw_up_ne1 _ _ _ h29, hd]
    · unfold p_tick3
      split
      · have hs : (p_strike wk (mi 29 wk.toNatClampNeg) (mi 23 (mi 29 wk.toNatClampNeg).toNatClampNeg) mi 9 0).2 a b = mi a b := p_strike_off h18 9 0
        unfold p_tick4
        split
        · show p_step _ _ _ a b = _
          unfold p_step p_stepB p_step1 p_step2
          split
          · rw [zw_up_ne1 _ _ _ h5, zw_up_ne1 _ _ _ h23]; exact hs
          · unfold p_step3 p_step4 p_step5 p_step6
            rw [zw_up_ne1 _ _ _ h5, zw_up_ne1 _ _ _ h27, zw_up_ne1 _ _ _ h5, zw_up_ne1 _ _ _ h29, zw_up_ne1 _ _ _ h5, zw_up_ne1 _ _ _ h23]; exact hs
        · show p_fail n _ _ _ a b = _
          unfold p_fail p_fail2 p_append p_append1 p_fail1
          split
          · rw [zw_up_ne1 _ _ _ h5, zw_up_ne1 _ _ _ h23, p_lose_off h6 h28]; exact hs
          · rw [zw_up_ne1 _ _ _ h4, zw_up_ne1 _ _ _ h22, zw_up_ne1 _ _ _ h5, zw_up_ne1 _ _ _ h23, p_lose_off h6 h28]; exact hs
      · show p_awaits _ _ _ a b = _
        unfold p_awaits p_awaits2
        rw [zw_up_ne1 _ _ _ h5, zw_up_ne1 _ _ _ (by omega)]
theorem p_tick_offL {n a b : Nat} (h : a < 112) (wk : Int32) (mi : zw_I) (ml : zw_L) : (p_tick n wk mi ml).2.2 a b = ml a b := by
  unfold p_tick p_tick2 p_tick3 p_tick4
  repeat' split
  all_goals first | rfl | (show p_stepL _ ml _ a b = ml a b; unfold p_stepL; exact zw_up_ne1 _ _ _ (by omega))
theorem p_loop_off {n a b : Nat} (h : zf_x a) : ∀ (f : Nat) (x : Int64) (e : Int32) (mi : zw_I) (ml : zw_L), (p_loop n f x e mi ml).2.1 a b = mi a b
  | 0, _, _, _, _ => rfl
  | f + 1, x, e, mi, ml => by
    have ht : p_t1 mi a b = mi a b := by unfold p_t1; exact zw_up_ne1 _ _ _ h.2.1
    rw [p_loop]
    split
    · split
      · rfl
      · split
        · rw [p_loop_off h f, p_tick_off h, ht]
        · rw [p_loop_off h f, p_tick_off h, ht]
    · rfl
theorem p_loop_offL {n a b : Nat} (h : a < 112) : ∀ (f : Nat) (x : Int64) (e : Int32) (mi : zw_I) (ml : zw_L), (p_loop n f x e mi ml).2.2 a b = ml a b
  | 0, _, _, _, _ => rfl
  | f + 1, x, e, mi, ml => by
    rw [p_loop]
    split
    · split
      · rfl
      · split
        · rw [p_loop_offL h f, p_tick_offL h]
        · rw [p_loop_offL h f, p_tick_offL h]
    · rfl
theorem p_prepA_offL {n a b : Nat} (h3 : a < 112) : ∀ (f : Nat) (k : Int32) (mi : zw_I) (ml : zw_L), (p_prepA n f k mi ml).2 a b = ml a b
  | 0, _, _, _ => rfl
  | f + 1, k, mi, ml => by
    rw [p_prepA]
    split
    · rfl
    · rw [p_prepA_offL h3 f]; exact zw_up_ne1 _ _ _ (by omega)
theorem p_prep_off {n a b : Nat} (h : zf_x a) (wk : Int32) (mi : zw_I) (ml : zw_L) : (p_prep n wk mi ml).1 a b = mi a b := by
  obtain ⟨h4, h5, h6, h18, h22, h23, h25, h27, h28, h29, h128⟩ := h
  show p_prepZ n wk (p_prepA n (n + 1) 0 mi ml).1 a b = mi a b
  unfold p_prepZ
  rw [p_zero_is]
  dsimp only
  rw [if_neg (by omega), p_renew_off h18, p_gather_off h6 h28 h29, p_fill_off h22 h4, p_prepA_off h23 h25 h128]
theorem p_prep_offL {n a b : Nat} (h : a < 112) (wk : Int32) (mi : zw_I) (ml : zw_L) : (p_prep n wk mi ml).2 a b = ml a b := p_prepA_offL h _ _ _ _
theorem p_prep_511 {n : Nat} (wk : Int32) (mi : zw_I) (ml : zw_L) : (p_prep n wk mi ml).1 5 11 = 0 := by
  show p_prepZ n wk (p_prepA n (n + 1) 0 mi ml).1 5 11 = 0
  unfold p_prepZ
  rw [p_zero_is]
  rfl
theorem p_go_off {n a b : Nat} (h : zf_x a) (wk : Int32) (x : Int64) (mi : zw_I) (ml : zw_L) : (p_go n wk x mi ml).2.1 a b = mi a b := by
  unfold p_go
  rw [p_loop_off h, p_prep_off h]
theorem p_go_offL {n a b : Nat} (h : a < 112) (wk : Int32) (x : Int64) (mi : zw_I) (ml : zw_L) : (p_go n wk x mi ml).2.2 a b = ml a b := by
  unfold p_go
  rw [p_loop_offL h, p_prep_offL h]
theorem q_shift_off {a b : Nat} (h : a ≠ 50) : ∀ (f : Nat) (k : Int32) (qi : zw_I), q_shift f k qi a b = qi a b
  | 0, _, _ => rfl
  | f + 1, k, qi => by
    rw [q_shift]
    split
    · rfl
    · rw [q_shift_off h f, zw_up_ne1 _ _ _ h]
theorem q_beg4_off {a b : Nat} (h : a ≠ 44) : ∀ (f : Nat) (k : Int32) (qi : zw_I), q_beg4 f k qi a b = qi a b
  | 0, _, _ => rfl
  | f + 1, k, qi => by
    rw [q_beg4]
    split
    · rfl
    · rw [q_beg4_off h f, zw_up_ne1 _ _ _ h]
theorem q_tick_off {a b : Nat} (h : zf_q a b) (wk : Int32) (qi : zw_I) (ql : zw_L) : (q_tick wk qi ql).1 a b = qi a b := by
  obtain ⟨h32, h44, h48, h49, h50, h51, h52, h53⟩ := h
  have u : ∀ (j : Nat) (v : Int32) (m : zw_I), 23 ≤ j → j ≤ 34 → zw_up m 32 j v a b = m a b := fun j v m h1 h2 => zw_up_off m v (by omega)
  unfold q_tick q_tick2
  split
  · unfold q_tick3
    split
    · have hs : (q_fails wk (qi 49 wk.toNatClampNeg) qi 9 0).2 a b = qi a b := q_fails_off h44 9 0
      unfold q_tick4
      split
      · show q_step _ _ _ a b = _
        unfold q_step q_stepB q_step1
        split
        · unfold q_step2 q_step3 q_step4 q_step5
          rw [zw_up_ne1 _ _ _ h49, u 24 _ _ (by omega) (by omega), u 29 _ _ (by omega) (by omega), zw_up_ne1 _ _ _ h51, u 33 _ _ (by omega) (by omega), zw_up_ne1 _ _ _ h48]; exact hs
        · rw [u 33 _ _ (by omega) (by omega), zw_up_ne1 _ _ _ h48]; exact hs
      · show q_die _ _ _ a b = _
        unfold q_die q_die1 q_die2 q_die3 q_die4 q_die5
        rw [u 23 _ _ (by omega) (by omega), zw_up_ne1 _ _ _ h50, u 24 _ _ (by omega) (by omega), zw_up_ne1 _ _ _ h48, u 25 _ _ (by omega) (by omega), zw_up_ne1 _ _ _ h49]; exact hs
    · show q_awaits _ _ _ a b = _
      unfold q_awaits q_awaits2
      rw [u 32 _ _ (by omega) (by omega), zw_up_ne1 _ _ _ h53]
  · split
    · show q_idle _ a b = _
      unfold q_idle
      exact u 31 _ _ (by omega) (by omega)
    · show q_take _ _ a b = _
      unfold q_take q_take1 q_take2 q_take3 q_take4
      split
      · rw [u 34 _ _ (by omega) (by omega), u 24 _ _ (by omega) (by omega), zw_up_ne1 _ _ _ h52, zw_up_ne1 _ _ _ h49, q_shift_off h50, u 23 _ _ (by omega) (by omega)]
      · rw [u 34 _ _ (by omega) (by omega), u 24 _ _ (by omega) (by omega), zw_up_ne1 _ _ _ h52, zw_up_ne1 _ _ _ h49, q_shift_off h50, u 23 _ _ (by omega) (by omega)]
theorem q_tick_offL {a b : Nat} (h : a ≠ 47) (wk : Int32) (qi : zw_I) (ql : zw_L) : (q_tick wk qi ql).2 a b = ql a b := by
  unfold q_tick q_tick2 q_tick3 q_tick4
  repeat' split
  all_goals first | rfl | (show q_stepL _ ql _ a b = ql a b; unfold q_stepL; exact zw_up_ne1 _ _ _ h)
theorem q_loop_off {a b : Nat} (h : zf_q a b) (wk : Int32) : ∀ (f : Nat) (x : Int64) (e : Int32) (qi : zw_I) (ql : zw_L), (q_loop wk f x e qi ql).2.1 a b = qi a b
  | 0, _, _, _, _ => rfl
  | f + 1, x, e, qi, ql => by
    rw [q_loop]
    split
    · rw [q_loop_off h wk f, q_tick_off h]
      unfold q_t1
      exact zw_up_off _ _ (by have := h.1; omega)
    · rfl
theorem q_loop_offL {a b : Nat} (h : a ≠ 47) (wk : Int32) : ∀ (f : Nat) (x : Int64) (e : Int32) (qi : zw_I) (ql : zw_L), (q_loop wk f x e qi ql).2.2 a b = ql a b
  | 0, _, _, _, _ => rfl
  | f + 1, x, e, qi, ql => by
    rw [q_loop]
    split
    · rw [q_loop_offL h wk f, q_tick_offL h]
    · rfl
