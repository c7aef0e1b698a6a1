/-! a tick, in both -/
theorem q_waits_same {qi qi' : zw_I} (h : ∀ a b, a ≠ 32 → a ≠ 53 → qi' a b = qi a b) (x : Int32) : ∀ (f : Nat) (k : Int32), q_waits qi' x f k = q_waits qi x f k
  | 0, _ => rfl
  | f + 1, k => by
    rw [q_waits, q_waits, q_waits_same h x f, h 36 _ (by decide) (by decide), h 37 _ (by decide) (by decide), h 48 _ (by decide) (by decide), h 39 _ (by decide) (by decide), h 38 _ (by decide) (by decide), h 48 _ (by decide) (by decide)]
section ZR
variable {n w : Nat} {mi mi' qi qi' : zw_I} {ml ml' ql ql' : zw_L}
/-- an idle or waiting tick ends nothing -/
theorem zr_same_end (h : zr n w mi ml qi ql) (h' : zr n w mi' ml qi' ql) (hx : ∀ a b, a ≠ 5 → a < 128 → mi' a b = mi a b) (h8 : mi' 5 8 = mi 5 8) (h9 : mi' 5 9 = mi 5 9) (hq : ∀ a b, a ≠ 32 → a ≠ 53 → qi' a b = qi a b) : p_end mi' = p_end mi := by
  have e49 : qi' 49 = qi 49 := funext fun b => hq 49 b (by decide) (by decide)
  have ec : p_canTake mi' = p_canTake mi := by
    have ef : p_first mi' = p_first mi := by
      unfold p_first
      rw [hx 4 2 (by decide) (by decide), hx 4 1 (by decide) (by decide), hx 22 _ (by decide) (by decide)]
    unfold p_canTake
    rw [ef, hx 1 1 (by decide) (by decide), h9, hx 8 _ (by decide) (by decide)]
  have eb : ∀ v, zr_blk mi' qi' v ↔ zr_blk mi qi v := fun v => by
    unfold zr_blk
    rw [e49, ec, q_waits_same hq]
  have hlen := zr_live_len (g := qi 49) (w := w)
  have hw := h.1
  have es : p_stuck mi' 17 0 = p_stuck mi 17 0 := by
    have A := zr_stuckP h 17 0 (by omega) (by omega)
    have B := zr_stuckP h' 17 0 (by omega) (by rw [e49]; omega)
    simp only [e49] at B
    rcases A with ⟨a1, a2⟩ | ⟨a1, j, hj, a2⟩ <;> rcases B with ⟨b1, b2⟩ | ⟨b1, i, hi, b2⟩
    · exact b1.trans a1.symm
    · exact absurd ((eb _).mpr (a2 i hi (by omega))) b2
    · exact absurd ((eb _).mp (b2 j hj (by omega))) a2
    · exact b1.trans a1.symm
  unfold p_end p_isFin
  rw [h8, hx 1 0 (by decide) (by decide), hx 1 7 (by decide) (by decide), hx 6 2 (by decide) (by decide), es, hx 23 _ (by decide) (by decide), hx 7 _ (by decide) (by decide)]
theorem zr_awaits_off {x o : Nat} (hx : x < 16) (ho : o < 16) : (∀ a b, a ≠ 5 → a < 128 → p_awaits (nI x) (nI o) mi a b = mi a b) ∧ p_awaits (nI x) (nI o) mi 5 8 = mi 5 8 ∧ p_awaits (nI x) (nI o) mi 5 9 = mi 5 9 := by
  unfold p_awaits p_awaits2
  rw [nI_clamp (by omega), nI_clamp (by omega)]
  refine ⟨fun a b h1 h2 => by rw [zw_up_ne1 _ _ _ h1, zw_up_ne1 _ _ _ (by omega)], ?_, ?_⟩
  · rw [zw_up_ne2 _ _ _ (by decide), zw_up_ne1 _ _ _ (by omega)]
  · rw [zw_up_ne2 _ _ _ (by decide), zw_up_ne1 _ _ _ (by omega)]
theorem zr_tick (h : zr n w mi ml qi ql) {v : Nat} (hv : v < w) (hl : ¬ qi 49 v = -2) : zr n w (p_tick n (nI v) mi ml).2.1 (p_tick n (nI v) mi ml).2.2 (q_tick (nI v) qi ql).1 (q_tick (nI v) qi ql).2 ∧ ((p_tick n (nI v) mi ml).1 = 0 → p_end (p_tick n (nI v) mi ml).2.1 = p_end mi) := by
  have hn := zr_n h
  have hw := h.1
  have ev : (nI v).toNatClampNeg = v := nI_clamp (by omega)
  have e29 : mi 29 v = qi 49 v := (h.2.2.2.2.2.2.1.1 v hv).elim (fun e => absurd e hl) (fun e => e.1)
  unfold p_tick q_tick
  rw [if_neg (nI_m1 (by omega)), ev, e29]
  by_cases c1 : qi 49 v = -1
  · unfold p_tick2 q_tick2
    rw [c1, if_pos rfl, if_neg (by decide)]
    dsimp only
    unfold p_take
    rw [zr_can h]
    by_cases c2 : p_canTake mi = 0
    · rw [if_pos c2, if_pos c2]
      exact ⟨zr_idle h, fun _ => zr_same_end h (zr_idle h) (fun a b h1 _ => zw_up_ne1 _ _ _ h1) rfl rfl (fun a b h1 _ => by unfold q_idle; exact zw_up_ne1 _ _ _ h1)⟩
    · rw [if_neg c2, if_neg c2]
      exact ⟨zr_take h hv c1 c2, fun e => absurd e (show ¬ (1 : Int32) = 0 by decide)⟩
  · have hin : vp_in (qi 49 v) n := (h.2.2.2.2.2.2.1.1 v hv).elim (fun e => absurd e hl) (fun e => e.2.elim (fun e => absurd e c1) (fun e => e.1))
    obtain ⟨x, hx, ex, -⟩ := zv_of hin (by omega)
    unfold p_tick2 q_tick2
    rw [if_neg c1, ex, if_pos (nI_pos' (by omega))]
    unfold p_tick3 q_tick3
    rcases zr_wait h hx with ⟨a1, a2⟩ | ⟨j, o, hj, ho, a1, a2, a3⟩
    · rw [a1, a2, if_pos rfl, if_pos (by decide)]
      unfold p_tick4 q_tick4
      have ed : qi 48 (nI x).toNatClampNeg = mi 23 (nI x).toNatClampNeg := by rw [nI_clamp (by omega)]; exact zr_dn h x hx
      rcases zr_strike (w := nI v) h.2.1.2.2 h.2.2.2.1.2.2.2.2.1 ed 9 0 (by omega) with ⟨b1, b2, b3, b4⟩ | ⟨j, hj, b1, b2, b3, b4⟩
      · rw [show nI 0 = (0 : Int32) from rfl] at b1 b2 b3 b4
        rw [b1, b2, b3, b4, if_pos rfl, if_pos rfl]
        exact ⟨zr_step h hv hx ex, fun e => absurd e (show ¬ (1 : Int32) = 0 by decide)⟩
      · rw [show nI 0 = (0 : Int32) from rfl] at b1 b2 b3 b4
        rw [b1, b2, b3, b4, if_neg (by decide), if_neg (by decide)]
        exact ⟨zr_die h hv hx ex hj, fun e => absurd e (show ¬ (1 : Int32) = 0 by decide)⟩
    · rw [a1, a2, if_neg (nI_m1 (by omega)), if_neg (nI_pos (by omega))]
      have h' := zr_awaits h hx hj ho a3
      obtain ⟨o1, o2, o3⟩ := zr_awaits_off (mi := mi) (x := x) (o := o) (by omega) (by omega)
      refine ⟨h', fun _ => zr_same_end h h' o1 o2 o3 (fun a b h1 h2 => ?_)⟩
      unfold q_awaits q_awaits2
      rw [zw_up_ne1 _ _ _ h1, zw_up_ne1 _ _ _ h2]
end ZR
theorem p_tick_511 {n : Nat} (wk : Int32) (mi : zw_I) (ml : zw_L) : (p_tick n wk mi ml).2.1 5 11 = mi 5 11 := by
  unfold p_tick
  split
  · rfl
  · unfold p_tick2
    split
    · unfold p_take
      split
      · show zw_up mi 5 12 (mi 5 12 + 1) 5 11 = mi 5 11
        exact zw_up_ne2 _ _ _ (by decide)
      · show p_take1 n wk mi 5 11 = mi 5 11
        have hd : p_drop n mi 5 11 = mi 5 11 := by
          unfold p_drop p_drop1
          split
          · rfl
          · rw [zw_up_ne1 _ _ _ (by decide), zw_up_ne1 _ _ _ (by decide)]
        unfold p_take1 p_take2 p_take3 p_take4
        rw [zw_up_ne2 _ _ _ (by decide), zw_up_ne2 _ _ _ (by decide), zw_up_ne1 _ _ _ (by decide), zw_up_ne1 _ _ _ (by decide), hd]
    · unfold p_tick3
      split
      · have hs : (p_strike wk (mi 29 wk.toNatClampNeg) (mi 23 (mi 29 wk.toNatClampNeg).toNatClampNeg) mi 9 0).2 5 11 = mi 5 11 := p_strike_off (by decide) 9 0
        unfold p_tick4
        split
        · show p_step _ _ _ 5 11 = _
          unfold p_step p_stepB p_step1 p_step2
          split
          · rw [zw_up_ne2 _ _ _ (by decide), zw_up_ne1 _ _ _ (by decide)]; exact hs
          · unfold p_step3 p_step4 p_step5 p_step6
            rw [zw_up_ne2 _ _ _ (by decide), zw_up_ne1 _ _ _ (by decide), zw_up_ne2 _ _ _ (by decide), zw_up_ne1 _ _ _ (by decide), zw_up_ne2 _ _ _ (by decide), zw_up_ne1 _ _ _ (by decide)]; exact hs
        · show p_fail n _ _ _ 5 11 = _
          unfold p_fail p_fail2 p_append p_append1 p_fail1
          split
          · rw [zw_up_ne2 _ _ _ (by decide), zw_up_ne1 _ _ _ (by decide), p_lose_off (by decide) (by decide)]; exact hs
          · rw [zw_up_ne1 _ _ _ (by decide), zw_up_ne1 _ _ _ (by decide), zw_up_ne2 _ _ _ (by decide), zw_up_ne1 _ _ _ (by decide), p_lose_off (by decide) (by decide)]; exact hs
      · show p_awaits _ _ _ 5 11 = _
        unfold p_awaits p_awaits2
        rw [zw_up_ne2 _ _ _ (by decide), zw_up_ne1 _ _ _ (by omega)]
theorem p_tick_ml {n : Nat} (wk : Int32) (mi : zw_I) (ml ml' : zw_L) : (p_tick n wk mi ml).2.1 = (p_tick n wk mi ml').2.1 := by
  unfold p_tick p_tick2 p_tick3 p_tick4
  repeat' split
  all_goals rfl
theorem q_tick_ml (wk : Int32) (qi : zw_I) (ql ql' : zw_L) : (q_tick wk qi ql).1 = (q_tick wk qi ql').1 := by
  unfold q_tick q_tick2 q_tick3 q_tick4
  repeat' split
  all_goals rfl
