/-! THE CALL run -/
theorem zA_run {n : Nat} : zl_A_run n (zJ n) := by
  intro mi ml wk x h
  have hn := zJ_n h
  have hzi := zj_zi h
  have h7 : ∀ i : Nat, i < n → vp_in ((p_go n wk x mi ml).2.1 7 i) 21 := fun i hi => by
    rw [p_go_off (by unfold zf_x; omega)]
    obtain ⟨t, t1, t2, t3, -⟩ := h.1.1.2.2.2.2.1 i hi
    rw [t3]; exact vp_in_nI (by omega) (by omega)
  by_cases c : p_within wk 1 16 = 0
  · rw [show p_run n mi ml wk x = .inl zt_A from if_pos c, zh_iL, zh_lL, zh_cL, show q_run wk x mi ml = (0, zw_up mi 32 0 1, ml) from if_pos c]
    obtain ⟨w8, k1, k2, k3⟩ := h.1.2.2.1
    exact ⟨⟨0, zr_G n 0, fun q => absurd c q, hzi, zr_g, fun q => absurd c q, p_prep_511 _ _ _, fun _ _ _ => p_tick_511 _ _ _, h7⟩, ⟨w8, 0, zr_Gq n 0, zJ_321 h, k1, k3, fun q => absurd c q, zr_q, fun q => absurd c q⟩, zw_up_self mi 32 0 1, fun q => absurd q (by decide), zJ_up h (fun a b hab => zw_up_off _ _ hab) (fun _ _ _ => rfl)⟩
  · obtain ⟨w, w1, w2, rfl⟩ := p_within_of (N := 16) (by omega) c
    have hset : (p_go n (nI w) x mi ml).1 = 0 ∨ (p_go n (nI w) x mi ml).1 = 1 ∨ (p_go n (nI w) x mi ml).1 = -1 ∨ (p_go n (nI w) x mi ml).1 = -2 ∨ (p_go n (nI w) x mi ml).1 = 2 := p_loop_is _ _ _ _ _ (p_end_is _)
    obtain ⟨M1, L0, hp, hM⟩ : ∃ (M1 : zw_I) (L0 : zw_L), p_run n mi ml (nI w) x = .inr (some (.int (p_goE (p_go n (nI w) x mi ml).1)), M1, L0) ∧ ∀ v : Int64, ((p_goE (p_go n (nI w) x mi ml).1 = 0 ∨ p_goE (p_go n (nI w) x mi ml).1 = 1) ∧ M1 = (p_put n (n + 1) 0 (p_go n (nI w) x mi ml).2.1 (p_go n (nI w) x mi ml).2.2).1 ∧ (∀ a b, a ≠ 30 → zw_up L0 30 0 v a b = (p_put n (n + 1) 0 (p_go n (nI w) x mi ml).2.1 (p_go n (nI w) x mi ml).2.2).2 a b) ∨ (p_goE (p_go n (nI w) x mi ml).1 < 0) ∧ M1 = (p_go n (nI w) x mi ml).2.1 ∧ ∀ a b, a ≠ 30 → zw_up L0 30 0 v a b = (p_go n (nI w) x mi ml).2.2 a b) := by
      by_cases e0 : p_goE (p_go n (nI w) x mi ml).1 = 0
      · exact ⟨_, _, by unfold p_run p_runB; rw [if_neg c, if_pos e0], fun v => Or.inl ⟨Or.inl e0, rfl, fun a b hab => zw_up_ne1 _ _ _ hab⟩⟩
      · by_cases e1 : p_goE (p_go n (nI w) x mi ml).1 = 1
        · exact ⟨_, _, by unfold p_run p_runB; rw [if_neg c, if_neg e0, if_pos e1], fun v => Or.inl ⟨Or.inr e1, rfl, fun a b hab => zw_up_ne1 _ _ _ hab⟩⟩
        · exact ⟨_, _, by unfold p_run p_runB; rw [if_neg c, if_neg e0, if_neg e1], fun v => Or.inr ⟨p_goE_neg hset e0 e1, rfl, fun a b hab => zw_up_ne1 _ _ _ hab⟩⟩
    obtain ⟨g1, g2, g3, g4, g5⟩ := zj_run h w2 x (hM (p_goE (p_go n (nI w) x mi ml).1).toInt64)
    rw [hp, zh_iR, zh_lR, zh_cR, zh_vI, show q_run (nI w) x M1 (zw_up L0 30 0 (p_goE (p_go n (nI w) x mi ml).1).toInt64) = q_runZ (q_run0 (nI w) x (zw_up M1 32 0 0) (zw_up L0 30 0 (p_goE (p_go n (nI w) x mi ml).1).toInt64)) from if_neg c]
    obtain ⟨w8, k1, k2, k3⟩ := g5.1.2.2.1
    have hb := zr_begin (w := w) g5 w2
    have hb0 := zr_begin (w := w) h w2
    obtain ⟨N, eN, -, -, n0, -⟩ := q_begin_is hn w2 k1 (zw_up M1 32 0 0) (zw_up L0 30 0 (p_goE (p_go n (nI w) x mi ml).1).toInt64) (by rw [zw_up_ne2 _ _ _ (by decide)]; exact g5.1.1.2.1.2) (by rw [zw_up_ne2 _ _ _ (by decide)]; exact k3)
    refine ⟨⟨w, zr_G n w, fun _ => ⟨w2, rfl⟩, hzi, zr_g, fun _ => ⟨_, _, _, hb0⟩, p_prep_511 _ _ _, fun _ _ _ => p_tick_511 _ _ _, h7⟩, ⟨w8, w, zr_Gq n w, g5.1.1.2.1.2, k1, k3, fun _ => ⟨w2, rfl⟩, zr_q, fun _ => ⟨⟨_, _, _, hb⟩, ?_⟩⟩, g2, fun _ => ?_, g4⟩
    · rw [eN]; exact n0 30 (by omega)
    · rw [g3, g1]; exact zA_out rfl rfl
