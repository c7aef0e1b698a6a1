section ZR
variable {n w : Nat} {mi mi' qi qi' : zw_I} {ml ml' ql ql' : zw_L}
theorem p_step_no {v x d t : Nat} (hx : x < 16) (h1 : d + 1 < t) (ht : t ≤ 20) (e1 : mi 23 x = nI d) (e2 : mi 7 x = nI t) : p_step (nI v) (nI x) mi = zw_up (zw_up mi 23 x (nI (d + 1))) 5 14 (mi 5 14 + 1) := by
  have e : p_step1 (nI x) mi = zw_up (zw_up mi 23 x (nI (d + 1))) 5 14 (mi 5 14 + 1) := by
    unfold p_step1 p_step2
    rw [nI_clamp (by omega), e1, nI_1, zw_up_ne1 _ _ _ (by decide)]
  unfold p_step p_stepB p_isFin
  rw [e, nI_clamp (by omega), zw_up_ne1 (zw_up mi 23 _ _) _ _ (by decide), zw_up_self, zw_up_ne1 (zw_up mi 23 _ _) _ _ (by decide), zw_up_ne1 mi _ _ (by decide), e2, if_pos (nI_lt h1 (by omega)), if_pos rfl]
theorem p_step_fin {v x d f : Nat} (hv : v < 16) (hx : x < 16) (hf : f < 16) (hd : d + 1 ≤ 20) (e1 : mi 23 x = nI d) (e2 : mi 7 x = nI (d + 1)) (e3 : mi 5 8 = nI f) : p_step (nI v) (nI x) mi = zw_up (zw_up (zw_up (zw_up (zw_up (zw_up mi 23 x (nI (d + 1))) 5 14 (mi 5 14 + 1)) 29 v (-1)) 5 9 (mi 5 9 - mi 8 x)) 27 f (nI x)) 5 8 (nI (f + 1)) := by
  have e : p_step1 (nI x) mi = zw_up (zw_up mi 23 x (nI (d + 1))) 5 14 (mi 5 14 + 1) := by
    unfold p_step1 p_step2
    rw [nI_clamp (by omega), e1, nI_1, zw_up_ne1 _ _ _ (by decide)]
  unfold p_step p_stepB p_isFin
  rw [e, nI_clamp (by omega), zw_up_ne1 (zw_up mi 23 _ _) _ _ (by decide), zw_up_self, zw_up_ne1 (zw_up mi 23 _ _) _ _ (by decide), zw_up_ne1 mi _ _ (by decide), e2, if_neg (nI_nlt (by omega) (by omega)), if_neg (by decide)]
  unfold p_step3 p_step4 p_step5 p_step6
  have h8 : ∀ u : Int32, (u + 1 = nI (f + 1)) ↔ (u + 1 = nI (f + 1)) := fun _ => Iff.rfl
  rw [nI_clamp (by omega), nI_clamp (by omega)]
  simp [zw_up, e3, nI_1, nI_clamp (show f < 2 ^ 31 by omega)]
theorem q_step_no {v x d t : Nat} (hx : x < 16) (h1 : d + 1 < t) (ht : t ≤ 20) (e1 : qi 48 x = nI d) (e2 : qi 33 x = nI t) : q_step (nI v) (nI x) qi = zw_up (zw_up qi 48 x (nI (d + 1))) 32 33 (qi 32 33 + 1) := by
  have e : q_step1 (nI x) qi = zw_up (zw_up qi 48 x (nI (d + 1))) 32 33 (qi 32 33 + 1) := by
    unfold q_step1
    rw [nI_clamp (by omega), e1, nI_1, zw_up_ne1 qi _ _ (by decide)]
  unfold q_step q_stepB
  rw [e, nI_clamp (by omega), zw_up_ne1 (zw_up qi 48 _ _) _ _ (by decide), zw_up_self, zw_up_ne1 (zw_up qi 48 _ _) _ _ (by decide), zw_up_ne1 qi _ _ (by decide), e2, if_neg (fun e9 => by have := nI_inj (by omega) (by omega) e9; omega)]
theorem q_step_fin {v x d f : Nat} (hv : v < 16) (hx : x < 16) (hf : f < 16) (hd : d + 1 ≤ 20) (e1 : qi 48 x = nI d) (e2 : qi 33 x = nI (d + 1)) (e3 : qi 32 29 = nI f) : q_step (nI v) (nI x) qi = zw_up (zw_up (zw_up (zw_up (zw_up (zw_up qi 48 x (nI (d + 1))) 32 33 (qi 32 33 + 1)) 51 f (nI x)) 32 29 (nI (f + 1))) 32 24 (qi 32 24 - qi 34 x)) 49 v (-1) := by
  have e : q_step1 (nI x) qi = zw_up (zw_up qi 48 x (nI (d + 1))) 32 33 (qi 32 33 + 1) := by
    unfold q_step1
    rw [nI_clamp (by omega), e1, nI_1, zw_up_ne1 qi _ _ (by decide)]
  unfold q_step q_stepB
  rw [e, nI_clamp (by omega), zw_up_ne1 (zw_up qi 48 _ _) _ _ (by decide), zw_up_self, zw_up_ne1 (zw_up qi 48 _ _) _ _ (by decide), zw_up_ne1 qi _ _ (by decide), e2, if_pos rfl]
  unfold q_step2 q_step3 q_step4 q_step5
  rw [nI_clamp (by omega), nI_clamp (by omega)]
  simp [zw_up, e3, nI_1, nI_clamp (show f < 2 ^ 31 by omega)]
/-- the values behind the steps -/
theorem zr_stepV (h : zr n w mi ml qi ql) {x d : Nat} (hx : x < n) (hd : d + 1 ≤ 20) (e1 : mi 23 x = nI d) (e2 : qi 48 x = nI d) : zj_V n (p_stepL mi ml (nI x)) (q_stepL qi ql (nI x)) ∧ (∀ a b, a < 112 → p_stepL mi ml (nI x) a b = ml a b) ∧ ∀ a b, a ≠ 47 → q_stepL qi ql (nI x) a b = ql a b := by
  have hn := zr_n h
  have p1 : p_stepL mi ml (nI x) = zw_up ml (112 + x) (d + 1) (p_mix (p_next mi ml (nI x))) := by
    unfold p_stepL
    rw [nI_clamp (by omega), e1, nI_1, nI_clamp (by omega)]
  have q1 : q_stepL qi ql (nI x) = zw_up ql 47 (21 * x + (d + 1)) (p_mix (p_next mi ml (nI x))) := by
    unfold q_stepL
    rw [zr_next hn h.2.1.2.1 h.2.2.1 hx (by omega) e1 e2, nI_clamp (by omega), e2, show (21 : Int32) = nI 21 from rfl, pk_mul, nI_add, nI_1, nI_clamp (by omega), Nat.add_assoc]
  rw [p1, q1]
  refine ⟨fun i j hi hj => ?_, fun a b ha => zw_up_ne1 _ _ _ (by omega), fun a b ha => zw_up_ne1 _ _ _ ha⟩
  by_cases c : i = x ∧ j = d + 1
  · obtain ⟨rfl, rfl⟩ := c
    rw [zw_up_self, zw_up_self]
  · rw [zw_up_ne2 ql _ _ (by omega), zw_up_off ml _ (by omega)]
    exact h.2.2.1 i j hi hj
theorem zr_step (h : zr n w mi ml qi ql) {v x : Nat} (hv : v < w) (hx : x < n) (hh : qi 49 v = nI x) : zr n w (p_step (nI v) (nI x) mi) (p_stepL mi ml (nI x)) (q_step (nI v) (nI x) qi) (q_stepL qi ql (nI x)) := by
  have hn := zr_n h
  obtain ⟨d, t, hdt, ht, d1, d2, d3⟩ := h.2.2.2.2.2.2.2.1 x hx
  have hnf : ¬ mi 23 x = mi 7 x := by
    rcases h.2.2.2.2.2.2.1.1 v hv with e | ⟨-, e | ⟨-, e⟩⟩
    · rw [hh] at e; exact absurd e (nI_m2 (by omega))
    · rw [hh] at e; exact absurd e (nI_m1 (by omega))
    · rw [hh, nI_clamp (by omega)] at e; exact e
  have hlt : d + 1 ≤ t := by
    rcases Nat.lt_or_ge d t with q | q
    · exact q
    · exact absurd (by rw [d1, d3, show d = t by omega]) hnf
  obtain ⟨sV, sL, sQ⟩ := zr_stepV h hx (by omega) d1 d2
  obtain ⟨t', -, -, t1, t2⟩ := h.2.1.1.2.2.2.2.1 x hx
  have et : qi 33 x = nI t := by rw [t2, ← t1, d3]
  obtain ⟨c0, -, c1, c2⟩ := h.2.1.1.2.2.2.2.2.1 x hx
  have e34 : qi 34 x = mi 8 x := by rw [c1, c2]
  obtain ⟨hw, hS, hV, ⟨⟨f, r1, r2, r3, r4⟩, r5, r6, ⟨r7, r8, r9, r10, r11⟩, r12, r13⟩, ⟨hd, f', Q, w1, w2, w3, w4, w5, w6, w7, w8, w9, w10⟩, ⟨l1, l2, l3⟩, ⟨h1, h2⟩, hD, hu, i1, i2, i3⟩ := h
  have hQx : ∀ y ∈ Q, y ≠ x := fun y hy e => w7 y hy v hv (by rw [e]; exact hh)
  have hoth : ∀ u, u < w → u ≠ v → ¬ qi 49 u = -2 → ¬ qi 49 u = -1 → ¬ (qi 49 u).toNatClampNeg = x := fun u hu' e e2 e1 ex => by
    have hin : vp_in (qi 49 u) n := (h1 u hu').elim (fun q => absurd q e2) (fun q => q.2.elim (fun q => absurd q e1) (fun q => q.1))
    obtain ⟨y, hy, ey, ec⟩ := zv_of hin (by omega)
    rw [ec] at ex
    subst ex
    exact (h2 u v hu' hv e (by rw [ey, hh])).elim e1 e2
  by_cases c : d + 1 < t
  · obtain ⟨M, eM⟩ : ∃ y, y = p_step (nI v) (nI x) mi := ⟨_, rfl⟩
    obtain ⟨N, eN⟩ : ∃ y, y = q_step (nI v) (nI x) qi := ⟨_, rfl⟩
    rw [← eM, ← eN]
    rw [p_step_no (by omega) c ht d1 d3] at eM
    rw [q_step_no (by omega) c ht d2 et] at eN
    have mo : ∀ a b, a ≠ 5 → a ≠ 23 → M a b = mi a b := fun a b q1 q2 => by rw [eM]; simp [zw_up, q1, q2]
    have m5 : ∀ b, b ≠ 14 → M 5 b = mi 5 b := fun b q1 => by rw [eM]; simp [zw_up, q1]
    have m514 : M 5 14 = mi 5 14 + 1 := by rw [eM]; simp [zw_up]
    have m23 : M 23 x = nI (d + 1) := by rw [eM]; simp [zw_up]
    have m23' : ∀ b, b ≠ x → M 23 b = mi 23 b := fun b q1 => by rw [eM]; simp [zw_up, q1]
    have no : ∀ a b, a ≠ 32 → a ≠ 48 → N a b = qi a b := fun a b q1 q2 => by rw [eN]; simp [zw_up, q1, q2]
    have n32 : ∀ b, b ≠ 33 → N 32 b = qi 32 b := fun b q1 => by rw [eN]; simp [zw_up, q1]
    have n33 : N 32 33 = qi 32 33 + 1 := by rw [eN]; simp [zw_up]
    have n48 : N 48 x = nI (d + 1) := by rw [eN]; simp [zw_up]
    have n48' : ∀ b, b ≠ x → N 48 b = qi 48 b := fun b q1 => by rw [eN]; simp [zw_up, q1]
    clear eM eN
    have e49 : N 49 = qi 49 := funext fun b => no 49 b (by decide) (by decide)
    refine ⟨hw, hS.same (fun a b hs => mo a b (by unfold zx_st at hs; omega) (by unfold zx_st at hs; omega)) (fun b => sL 9 b (by decide)) (fun a b hs => ?_) (fun b => sQ 35 b (by decide)), sV, ⟨⟨f, r1, ?_, ?_, fun k hk => ?_⟩, fun i hi => ?_, fun i j hi hj => ?_, ⟨?_, ?_, ?_, ?_, ?_⟩, fun k hk => ?_, fun k hk => ?_⟩,
      ⟨hd, f', Q, w1, ?_, ?_, ?_, fun k hk => ?_, w6, ?_, fun y hy => ?_, ?_, ?_⟩, ⟨?_, ?_, fun k hk => ?_⟩, ⟨fun u hu' => ?_, ?_⟩, fun i hi => ?_, ?_, fun i hi => ?_, fun k hk => ?_, fun u hu' => ?_⟩
    · unfold zq_st at hs
      by_cases e : a = 32
      · subst e
        exact n32 b (by omega)
      · exact no a b e (by omega)
    · rw [m5 8 (by decide)]; exact r2
    · rw [n32 29 (by decide)]; exact r3
    · rw [no 51 k (by decide) (by decide), mo 27 k (by decide) (by decide)]; exact r4 k hk
    · rw [no 52 i (by decide) (by decide), mo 25 i (by decide) (by decide)]; exact r5 i hi
    · rw [no 53 _ (by decide) (by decide), mo (128 + i) j (by omega) (by omega)]; exact r6 i j hi hj
    · rw [n32 30 (by decide), m5 11 (by decide)]; exact r7
    · rw [n32 31 (by decide), m5 12 (by decide)]; exact r8
    · rw [n32 32 (by decide), m5 13 (by decide)]; exact r9
    · rw [n33, m514, r10]
    · rw [n32 34 (by decide), m5 10 (by decide)]; exact r11
    · rw [no 44 k (by decide) (by decide), mo 18 k (by decide) (by decide)]; exact r12 k hk
    · rw [no 50 k (by decide) (by decide)]; exact r13 k hk
    · rw [mo 4 1 (by decide) (by decide)]; exact w2
    · rw [mo 4 2 (by decide) (by decide)]; exact w3
    · rw [n32 23 (by decide)]; exact w4
    · rw [mo 22 _ (by decide) (by decide), no 50 k (by decide) (by decide)]; exact w5 k hk
    · rw [e49]; exact w7
    · rw [m23' y (hQx y hy), mo 7 y (by decide) (by decide)]; exact w8 y hy
    · rw [m5 8 (by decide)]; exact w9
    · rw [e49]; exact w10
    · rw [e49, mo 6 2 (by decide) (by decide)]; exact l1
    · rw [e49, n32 25 (by decide)]; exact l2
    · simp only [e49] at hk ⊢
      rw [mo 28 k (by decide) (by decide)]; exact l3 k hk
    · rw [e49, mo 29 u (by decide) (by decide), mo 7 _ (by decide) (by decide)]
      rcases h1 u hu' with e | ⟨e, e' | ⟨e1, e2⟩⟩
      · exact Or.inl e
      · exact Or.inr ⟨e, Or.inl e'⟩
      · refine Or.inr ⟨e, Or.inr ⟨e1, ?_⟩⟩
        by_cases ex : (qi 49 u).toNatClampNeg = x
        · rw [ex, m23, d3]
          exact fun e9 => by have := nI_inj (by omega) (by omega) e9; omega
        · rw [m23' _ ex]; exact e2
    · rw [e49]; exact h2
    · rw [mo 7 i (by decide) (by decide)]
      by_cases e : i = x
      · subst e
        exact ⟨d + 1, t, hlt, ht, m23, n48, d3⟩
      · rw [m23' i e, n48' i e]; exact hD i hi
    · rw [n32 24 (by decide), m5 9 (by decide)]; exact hu
    · rw [mo 22 i (by decide) (by decide)]; exact i1 i hi
    · rw [mo 28 k (by decide) (by decide)]; exact i2 k hk
    · rw [mo 29 u (by decide) (by decide)]; exact i3 u hu'
  · have hdt' : d + 1 = t := by omega
    have hff : f' = f := nI_inj (by omega) (by omega) (w9.symm.trans r2)
    subst hff
    have hpos := zr_cnt_pos (g := qi 49) hv (by rw [hh]; exact fun e9 => e9.elim (nI_m1 (by omega)) (nI_m2 (by omega)))
    obtain ⟨M, eM⟩ : ∃ y, y = p_step (nI v) (nI x) mi := ⟨_, rfl⟩
    obtain ⟨N, eN⟩ : ∃ y, y = q_step (nI v) (nI x) qi := ⟨_, rfl⟩
    rw [← eM, ← eN]
    rw [p_step_fin (f := f') (by omega) (by omega) (by omega) (by omega) d1 (by rw [hdt']; exact d3) r2] at eM
    rw [q_step_fin (f := f') (by omega) (by omega) (by omega) (by omega) d2 (by rw [hdt']; exact et) r3] at eN
    have mo : ∀ a b, a ≠ 5 → a ≠ 23 → a ≠ 29 → a ≠ 27 → M a b = mi a b := fun a b q1 q2 q3 q4 => by rw [eM]; simp [zw_up, q1, q2, q3, q4]
    have m5 : ∀ b, b ≠ 14 → b ≠ 9 → b ≠ 8 → M 5 b = mi 5 b := fun b q1 q2 q3 => by rw [eM]; simp [zw_up, q1, q2, q3]
    have m514 : M 5 14 = mi 5 14 + 1 := by rw [eM]; simp [zw_up]
    have m58 : M 5 8 = nI (f' + 1) := by rw [eM]; simp [zw_up]
    have m59 : M 5 9 = mi 5 9 - mi 8 x := by rw [eM]; simp [zw_up]
    have m23 : M 23 x = nI (d + 1) := by rw [eM]; simp [zw_up]
    have m23' : ∀ b, b ≠ x → M 23 b = mi 23 b := fun b q1 => by rw [eM]; simp [zw_up, q1]
    have m29 : M 29 v = -1 := by rw [eM]; simp [zw_up]
    have m29' : ∀ b, b ≠ v → M 29 b = mi 29 b := fun b q1 => by rw [eM]; simp [zw_up, q1]
    have m27 : M 27 f' = nI x := by rw [eM]; simp [zw_up]
    have m27' : ∀ b, b ≠ f' → M 27 b = mi 27 b := fun b q1 => by rw [eM]; simp [zw_up, q1]
    have no : ∀ a b, a ≠ 32 → a ≠ 48 → a ≠ 51 → a ≠ 49 → N a b = qi a b := fun a b q1 q2 q3 q4 => by rw [eN]; simp [zw_up, q1, q2, q3, q4]
    have n32 : ∀ b, b ≠ 33 → b ≠ 29 → b ≠ 24 → N 32 b = qi 32 b := fun b q1 q2 q3 => by rw [eN]; simp [zw_up, q1, q2, q3]
    have n33 : N 32 33 = qi 32 33 + 1 := by rw [eN]; simp [zw_up]
    have n29 : N 32 29 = nI (f' + 1) := by rw [eN]; simp [zw_up]
    have n24 : N 32 24 = qi 32 24 - qi 34 x := by rw [eN]; simp [zw_up]
    have n48 : N 48 x = nI (d + 1) := by rw [eN]; simp [zw_up]
    have n48' : ∀ b, b ≠ x → N 48 b = qi 48 b := fun b q1 => by rw [eN]; simp [zw_up, q1]
    have n51 : N 51 f' = nI x := by rw [eN]; simp [zw_up]
    have n51' : ∀ b, b ≠ f' → N 51 b = qi 51 b := fun b q1 => by rw [eN]; simp [zw_up, q1]
    have n49 : N 49 v = -1 := by rw [eN]; simp [zw_up]
    have n49' : ∀ b, b ≠ v → N 49 b = qi 49 b := fun b q1 => by rw [eN]; simp [zw_up, q1]
    clear eM eN
    have hlive : zr_live (N 49) w = zr_live (qi 49) w := zr_live_same fun u hu => by
      by_cases e : u = v
      · subst e
        rw [n49, hh]
        exact ⟨fun e9 => absurd e9 (by decide), fun e9 => absurd e9 (nI_m2 (by omega))⟩
      · rw [n49' u e]
    have hcnt : zr_cnt (qi 49) w = zr_cnt (N 49) w + 1 := zr_cnt_up hv (fun u hu e => (n49' u e).symm) (Or.inl n49) (by rw [hh]; exact fun e9 => e9.elim (nI_m1 (by omega)) (nI_m2 (by omega)))
    refine ⟨hw, hS.same (fun a b hs => mo a b (by unfold zx_st at hs; omega) (by unfold zx_st at hs; omega) (by unfold zx_st at hs; omega) (by unfold zx_st at hs; omega)) (fun b => sL 9 b (by decide)) (fun a b hs => ?_) (fun b => sQ 35 b (by decide)), sV, ⟨⟨f' + 1, by omega, m58, n29, fun k hk => ?_⟩, fun i hi => ?_, fun i j hi hj => ?_, ⟨?_, ?_, ?_, ?_, ?_⟩, fun k hk => ?_, fun k hk => ?_⟩,
      ⟨hd, f' + 1, Q, w1, ?_, ?_, ?_, fun k hk => ?_, w6, fun y hy u hu' => ?_, fun y hy => ?_, m58, by omega⟩, ⟨?_, ?_, fun k hk => ?_⟩, ⟨fun u hu' => ?_, fun u q hu' hq huq e => ?_⟩, fun i hi => ?_, ?_, fun i hi => ?_, fun k hk => ?_, fun u hu' => ?_⟩
    · unfold zq_st at hs
      by_cases e : a = 32
      · subst e
        exact n32 b (by omega) (by omega) (by omega)
      · exact no a b e (by omega) (by omega) (by omega)
    · by_cases e : k = f'
      · subst e
        rw [n51, m27]
      · rw [n51' k e, m27' k e]; exact r4 k (by omega)
    · rw [no 52 i (by decide) (by decide) (by decide) (by decide), mo 25 i (by decide) (by decide) (by decide) (by decide)]; exact r5 i hi
    · rw [no 53 _ (by decide) (by decide) (by decide) (by decide), mo (128 + i) j (by omega) (by omega) (by omega) (by omega)]; exact r6 i j hi hj
    · rw [n32 30 (by decide) (by decide) (by decide), m5 11 (by decide) (by decide) (by decide)]; exact r7
    · rw [n32 31 (by decide) (by decide) (by decide), m5 12 (by decide) (by decide) (by decide)]; exact r8
    · rw [n32 32 (by decide) (by decide) (by decide), m5 13 (by decide) (by decide) (by decide)]; exact r9
    · rw [n33, m514, r10]
    · rw [n32 34 (by decide) (by decide) (by decide), m5 10 (by decide) (by decide) (by decide)]; exact r11
    · rw [no 44 k (by decide) (by decide) (by decide) (by decide), mo 18 k (by decide) (by decide) (by decide) (by decide)]; exact r12 k hk
    · rw [no 50 k (by decide) (by decide) (by decide) (by decide)]; exact r13 k hk
    · rw [mo 4 1 (by decide) (by decide) (by decide) (by decide)]; exact w2
    · rw [mo 4 2 (by decide) (by decide) (by decide) (by decide)]; exact w3
    · rw [n32 23 (by decide) (by decide) (by decide)]; exact w4
    · rw [mo 22 _ (by decide) (by decide) (by decide) (by decide), no 50 k (by decide) (by decide) (by decide) (by decide)]; exact w5 k hk
    · by_cases e : u = v
      · subst e
        rw [n49]
        have hyn : y < n := by
          obtain ⟨k, hk, ek⟩ := List.getElem_of_mem hy
          have := (w5 k hk).2.2
          rw [ek] at this
          exact this
        exact fun e9 => nI_m1 (by omega) e9.symm
      · rw [n49' u e]; exact w7 y hy u hu'
    · rw [m23' y (hQx y hy), mo 7 y (by decide) (by decide) (by decide) (by decide)]; exact w8 y hy
    · rw [hlive, mo 6 2 (by decide) (by decide) (by decide) (by decide)]; exact l1
    · rw [hlive, n32 25 (by decide) (by decide) (by decide)]; exact l2
    · simp only [hlive] at hk ⊢
      rw [mo 28 k (by decide) (by decide) (by decide) (by decide)]; exact l3 k hk
    · by_cases e : u = v
      · subst e
        right
        rw [n49, m29]
        exact ⟨rfl, Or.inl rfl⟩
      · rw [n49' u e, m29' u e, mo 7 _ (by decide) (by decide) (by decide) (by decide)]
        rcases h1 u hu' with e0 | ⟨e0, e' | ⟨e1, e2⟩⟩
        · exact Or.inl e0
        · exact Or.inr ⟨e0, Or.inl e'⟩
        · by_cases e3 : qi 49 u = -2
          · exact Or.inl e3
          · by_cases e4 : qi 49 u = -1
            · exact Or.inr ⟨e0, Or.inl e4⟩
            · refine Or.inr ⟨e0, Or.inr ⟨e1, ?_⟩⟩
              rw [m23' _ (hoth u hu' e e3 e4)]; exact e2
    · by_cases e1 : u = v
      · subst e1
        rw [n49]; exact Or.inl rfl
      · by_cases e2 : q = v
        · subst e2
          rw [n49, n49' u e1] at e
          rw [n49' u e1]; exact Or.inl e
        · rw [n49' u e1, n49' q e2] at e
          rw [n49' u e1]
          exact h2 u q hu' hq huq e
    · rw [mo 7 i (by decide) (by decide) (by decide) (by decide)]
      by_cases e : i = x
      · subst e
        exact ⟨d + 1, t, hlt, ht, m23, n48, d3⟩
      · rw [m23' i e, n48' i e]; exact hD i hi
    · rw [n24, m59, hu, e34]
    · rw [mo 22 i (by decide) (by decide) (by decide) (by decide)]; exact i1 i hi
    · rw [mo 28 k (by decide) (by decide) (by decide) (by decide)]; exact i2 k hk
    · by_cases e : u = v
      · subst e
        rw [m29]; exact Or.inl rfl
      · rw [m29' u e]; exact i3 u hu'
end ZR
