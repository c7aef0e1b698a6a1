/-! a run's ticks keep what they need; the loops, in both -/
theorem zv_mono {x : Int32} {n N : Nat} (h : vp_in x n) (hn : n ≤ N) (hN : N ≤ 1000) : vp_in x N := by
  obtain ⟨j, hj, e, -⟩ := zv_of h (by omega)
  rw [e]
  exact vp_in_nI (by omega) (by omega)
section ZR
variable {n w : Nat} {mi mi' qi qi' : zw_I} {ml ml' ql ql' : zw_L}
theorem zr_zi (h : zr n w mi ml qi ql) : zi n mi := by
  have hlen := zr_live_len (g := qi 49) (w := w)
  obtain ⟨hw, ⟨⟨⟨n1, n2⟩, ⟨b1, b2⟩, ⟨r, r1, r2, r3, r4⟩, ⟨b4, b5⟩, b6, b7, b8⟩, ⟨c1, c2, c3, c4⟩, ⟨k, k1, k2, k3⟩, d2⟩, hV, hR, ⟨hd, f', Q, w1, w2, w3, w4, w5, w6, w7, w8, w9, w10⟩, ⟨l1, l2, l3⟩, hH, hD, hu, i1, i2, i3⟩ := h
  refine ⟨⟨n1, b1, ⟨r, r1, r2, r3⟩, b5, fun i hi => ⟨?_, ?_⟩⟩, fun i hi => ⟨?_, fun k hk => ?_⟩, ⟨k, k1, k2⟩, ⟨?_, ⟨Q.length, by omega, w3⟩, i1⟩, ⟨_, by omega, l1⟩, i2, i3⟩
  · obtain ⟨t, t1, t2, t3, -⟩ := b6 i hi
    exact ⟨t, t1, t2, t3⟩
  · obtain ⟨t, t1, t2, -⟩ := b7 i hi
    exact ⟨t, t1, t2⟩
  · obtain ⟨c, e1, e2, -⟩ := c1 i hi
    exact ⟨c, e1, e2⟩
  · obtain ⟨-, -, -, e1, e2⟩ := c2 i k hi hk
    exact ⟨e1, e2⟩
  · rw [w2]; exact vp_in_nI w1 (by omega)
/-- a worker that has a share -/
theorem zr_hold (h : zr n w mi ml qi ql) {v : Nat} (hv : v < w) (hl : ¬ qi 49 v = -2) (h1 : ¬ qi 49 v = -1) : ∃ x d t f q : Nat, x < n ∧ qi 49 v = nI x ∧ mi 29 v = nI x ∧ d + 1 ≤ t ∧ t ≤ 20 ∧ mi 23 x = nI d ∧ qi 48 x = nI d ∧ f < n ∧ mi 5 8 = nI f ∧ qi 32 29 = nI f ∧ q < n ∧ qi 32 23 = nI q := by
  have hn := zr_n h
  obtain ⟨hw, hS, hV, ⟨⟨f, r1, r2, r3, r4⟩, -⟩, ⟨hd, f', Q, w1, w2, w3, w4, w5, w6, w7, w8, w9, w10⟩, hL, ⟨g1, g2⟩, hD, hu, hI⟩ := h
  have hff : f' = f := nI_inj (by omega) (by omega) (w9.symm.trans r2)
  subst hff
  have hpos := zr_cnt_pos (g := qi 49) hv (fun e => e.elim h1 hl)
  rcases g1 v hv with e | ⟨e, e' | ⟨e1, e2⟩⟩
  · exact absurd e hl
  · exact absurd e' h1
  · obtain ⟨x, hx, ex, ec⟩ := zv_of e1 (by omega)
    obtain ⟨d, t, d1, d2, d3, d4, d5⟩ := hD x hx
    rw [ec] at e2
    refine ⟨x, d, t, f', Q.length, hx, ex, e.trans ex, ?_, d2, d3, d4, by omega, r2, r3, by omega, w4⟩
    rcases Nat.lt_or_ge d t with q | q
    · exact q
    · exact absurd (by rw [d3, d5, show d = t by omega]) e2
end ZR
def zr_G (n w : Nat) : zw_I → Prop := fun mi => ∃ (ml : zw_L) (qi : zw_I) (ql : zw_L), zr n w mi ml qi ql
def zr_Gq (n w : Nat) : zw_I → Prop := fun qi => ∃ (mi : zw_I) (ml ql : zw_L), zr n w mi ml qi ql
theorem lN_ne0 {c : Nat} (h : 0 < c) (hc : c < 1000) : ¬ (nI c).toInt64 = 0 := by
  rw [nI_l (by omega)]
  intro e
  have := (lN_eq (b := 0) (by omega) (by omega)).mp e
  omega
theorem zr_g {n w : Nat} : zg_K n (zr_G n w) := by
  refine ⟨fun mi ⟨ml, qi, ql, h⟩ => zr_zi h, fun mi ml0 x ⟨ml, qi, ql, h⟩ => ?_, fun mi x ⟨ml, qi, ql, h⟩ => ?_⟩
  · have h1 := zr_t1 h
    rcases zr_turn h1 x with ⟨a, b, c⟩ | ⟨v, c, j, c0, c1, hj, e1, e2, e3, hv, hl, e4, e5, -⟩
    · rw [c]
      exact ⟨ml, q_t1 qi, ql, h1⟩
    · rw [e4, p_tick_ml _ _ ml0 ml]
      exact ⟨_, _, _, (zr_tick h1 hv hl).1⟩
  · have h1 := zr_t1 h
    have hn := zr_n h
    have hw := h.1
    rcases zr_turn h1 x with ⟨a, b, c⟩ | ⟨v, c, j, c0, c1, hj, e1, e2, e3, hv, hl, e4, e5, -⟩
    · exact ⟨fun q => absurd (by rw [a]; decide) q, fun q => absurd (by rw [a]; decide) q, Or.inl c, fun q => absurd c q⟩
    · refine ⟨fun _ => by rw [e3]; exact vp_in_nI (by omega) (by omega), fun _ => by rw [e1]; exact lN_ne0 c0 (by omega), Or.inr (by rw [e4]; exact vp_in_nI (by omega) (by omega)), fun _ y ey hy => ?_⟩
      rw [e4, nI_clamp (by omega)] at ey
      have h29 : p_t1 mi 29 v = q_t1 qi 49 v := (h1.2.2.2.2.2.2.1.1 v hv).elim (fun e => absurd e hl) (fun e => e.1)
      obtain ⟨x0, d, t, f, q, hx0, q1, q2, q3, q4, q5, q6, q7, q8, -⟩ := zr_hold h1 hv hl (by rw [← h29, ey]; exact hy)
      have e9 : y = nI x0 := by rw [← ey]; exact q2
      subst e9
      refine ⟨vp_in_nI hx0 (by omega), ?_⟩
      unfold zi_T
      rw [nI_clamp (by omega), q5, q8, nI_1]
      exact ⟨vp_in_nI (by omega) (by omega), vp_in_nI (by omega) (by omega), vp_in_nI q7 (by omega)⟩
theorem zr_mN {n w : Nat} {mi qi : zw_I} {ml ql : zw_L} (h : zr n w mi ml qi ql) : zm_N qi := by
  obtain ⟨k, k1, k2, k3⟩ := h.2.1.2.2.1
  exact ⟨h.2.1.2.1.2.2.1, h.2.1.2.1.2.2.2, k, k1, k3⟩
theorem zr_q {n w : Nat} : zq_K n w (zr_Gq n w) := by
  refine ⟨fun qi ⟨mi, ml, ql, h⟩ => ?_, fun qi ql0 x ⟨mi, ml, ql, h⟩ he => ?_⟩
  · have hn := zr_n h
    refine ⟨⟨zr_mN h, h.2.2.2.1.2.2.2.2.2 0 (by omega), ?_, fun k hk => ?_⟩, h.2.1.1.2.1.2, fun k hk => ?_⟩
    · obtain ⟨s1, s2⟩ := h.2.1.1.2.2.2.1
      rw [s1]
      exact s2.imp id (fun e => zv_mono e hn (by omega))
    · rcases h.2.2.2.2.2.2.1.1 k hk with e | ⟨-, e | ⟨e, -⟩⟩
      · exact Or.inl e
      · exact Or.inr (Or.inl e)
      · exact Or.inr (Or.inr (zv_mono e hn (by omega)))
    · obtain ⟨t, t1, t2, t3, t4⟩ := h.2.1.1.2.2.2.2.1 k hk
      rw [t4]
      exact vp_in_nI (by omega) (by omega)
  · have hn := zr_n h
    have hw := h.1
    have h1 := zr_t1 h
    rcases zr_turn h x with ⟨a, b, c⟩ | ⟨v, c, j, c0, c1, hj, e1, e2, e3, hv, hl, e4, e5, e6⟩
    · exfalso
      unfold q_end q_end2 at he
      rw [b, if_pos rfl] at he
      repeat (split at he <;> try (revert he; decide))
    · have ht := zr_tick h1 hv (show ¬ q_t1 qi 49 v = -2 from hl)
      refine ⟨by rw [e2]; exact lN_ne0 c0 (by omega), e6, ⟨by rw [e5]; exact vp_in_nI (by omega) (by omega), zr_mN h1, h1.2.2.2.1.2.2.2.2.2 0 (by omega), fun hc => ?_, fun h0 => ?_⟩, ?_, ?_⟩
      · rcases zr_first h1 with ⟨-, f2⟩ | ⟨x0, q, -, -, -, f3, -, f4⟩
        · exfalso
          unfold q_canTake at hc
          rw [f2, if_pos (by decide)] at hc
          exact hc rfl
        · exact ⟨q, by omega, f3⟩
      · rw [e5, nI_clamp (by omega)] at h0 ⊢
        have hm1 : ¬ q_t1 qi 49 v = -1 := fun e => by rw [e] at h0; exact absurd h0 (by decide)
        obtain ⟨x0, d, t, f, q, hx0, q1, q2, q3, q4, q5, q6, q7, q8, q9, q10, q11⟩ := zr_hold h1 hv hl hm1
        rw [q1]
        refine ⟨vp_in_nI (by omega) (by omega), fun hq => ?_, ?_⟩
        · rcases zr_wait h1 hx0 with ⟨-, b2⟩ | ⟨j0, o, hj0, ho, b1, -, -⟩
          · rw [b2] at hq; exact absurd (by decide) hq
          · rw [b1]; exact vp_in_nI (by omega) (by omega)
        · unfold zm_T
          rw [nI_clamp (by omega), q6, q9, q11, nI_1]
          exact ⟨vp_in_nI (by omega) (by omega), vp_in_nI (by omega) (by omega), vp_in_nI (by omega) (by omega), vp_in_nI (by omega) (by omega)⟩
      · rw [e5, q_tick_ml _ _ ql0 ql]
        exact ⟨_, _, _, ht.1⟩
      · rw [e5, q_tick_ml _ _ ql0 ql, ht.1.2.2.2.1.2.2.2.1.1, p_tick_511]
        show mi 5 11 + 1 = qi 32 30 + 1
        rw [h.2.2.2.1.2.2.2.1.1]
theorem zr_loop {n w : Nat} : ∀ (f t : Nat) (x : Int64) (mi : zw_I) (ml : zw_L) (qi : zw_I) (ql : zw_L), t + f = 20001 → t ≤ 20000 → zr n w mi ml qi ql → mi 5 11 = nI t → p_goE (p_loop n f x (p_end mi) mi ml).1 = (q_loop (nI w) f x (q_end qi (nI w)) qi ql).1 ∧ zr n w (p_loop n f x (p_end mi) mi ml).2.1 (p_loop n f x (p_end mi) mi ml).2.2 (q_loop (nI w) f x (q_end qi (nI w)) qi ql).2.1 (q_loop (nI w) f x (q_end qi (nI w)) qi ql).2.2
  | 0, t, x, mi, ml, qi, ql, h1, h2, h, et => by omega
  | f + 1, t, x, mi, ml, qi, ql, h1, h2, h, et => by
    have ee := zr_end h
    have eq30 : qi 32 30 = nI t := by rw [h.2.2.2.1.2.2.2.1.1, et]
    rw [p_loop, q_loop]
    by_cases c : p_end mi = 2
    · rw [if_pos c] at ee
      rw [if_pos c, et]
      by_cases c1 : t = 20000
      · subst c1
        rw [if_pos (show (20000 : Int32) ≤ nI 20000 from Int32.le_refl _)]
        have e3 : q_end qi (nI w) = -3 := by rw [ee, if_pos (show qi 32 30 = 20000 from eq30)]
        rw [e3, if_neg (by decide), c]
        exact ⟨rfl, h⟩
      · have hlt : t < 20000 := by omega
        rw [if_neg (show ¬ (20000 : Int32) ≤ nI t from nI_ge (b := 20000) hlt (by omega))]
        have e3 : q_end qi (nI w) = 2 := by
          rw [ee, if_neg (show ¬ qi 32 30 = 20000 from fun e => c1 (nI_inj (b := 20000) (by omega) (by omega) (eq30.symm.trans e)))]
        rw [e3, if_pos rfl]
        have h3 := zr_t1 h
        rcases zr_turn h3 (p_x x) with ⟨a, b, -⟩ | ⟨v, c, j, c0, c2, hj, e4, e5, e6, hv, hl, e7, -, -⟩
        · exfalso
          have b' : qi 32 25 = 0 := b
          unfold q_end q_end2 at e3
          rw [b', if_pos rfl] at e3
          repeat (split at e3 <;> try (revert e3; decide))
        · have e8 : q_find qi 17 (q_place qi (p_x x)) 0 = nI v := by
            rcases zr_turn h (p_x x) with ⟨a, -, -⟩ | ⟨v', -, -, -, -, -, -, -, -, -, -, a1, a2, -⟩
            · have a' : p_t1 mi 6 2 = 0 := a
              rw [a'] at e4
              exact absurd e4.symm (nI_ne0 c0 (by omega))
            · have a3 : p_turn (p_t1 mi) (p_x x) = nI v' := a1
              rw [e7] at a3
              have : nI v = nI v' := a3
              rw [this]; exact a2
          obtain ⟨t1, t2⟩ := zr_tick h3 hv hl
          rw [e7, e8]
          have ih := zr_loop f (t + 1) (p_x x) _ _ _ _ (by omega) (by omega) t1 (by rw [p_tick_511]; show mi 5 11 + 1 = _; rw [et, nI_1])
          by_cases c3 : (p_tick n (nI v) (p_t1 mi) ml).1 = 0
          · rw [if_pos c3]
            have e9 : p_end (p_tick n (nI v) (p_t1 mi) ml).2.1 = p_end mi := (t2 c3).trans (zr_same_end h h3 (fun a b q1 _ => by unfold p_t1; exact zw_up_ne1 _ _ _ q1) rfl rfl (fun a b q1 _ => by unfold q_t1; exact zw_up_ne1 _ _ _ q1))
            rw [← e9]
            exact ih
          · rw [if_neg c3]
            exact ih
    · rw [if_neg c] at ee
      rw [if_neg c, ee, if_neg c]
      refine ⟨?_, h⟩
      unfold p_goE
      rw [if_neg c]
