section ZR
variable {n w : Nat} {mi mi' qi qi' : zw_I} {ml ml' ql ql' : zw_L}
theorem zr_take (h : zr n w mi ml qi ql) {v : Nat} (hv : v < w) (hl : qi 49 v = -1) (hc : ¬ p_canTake mi = 0) : zr n w (p_take1 n (nI v) mi) ml (q_take (nI v) qi) ql := by
  have hn := zr_n h
  have hf1 := zr_first h
  obtain ⟨hw, hS, hV, ⟨⟨f, r1, r2, r3, r4⟩, r5, r6, ⟨r7, r8, r9, r10, r11⟩, r12, r13⟩, ⟨hd, f', Q, w1, w2, w3, w4, w5, w6, w7, w8, w9, w10⟩, ⟨l1, l2, l3⟩, ⟨h1, h2⟩, hD, hu, i1, i2, i3⟩ := h
  have hne : ¬ p_first mi = -1 := fun e => hc (by unfold p_canTake; rw [if_pos e])
  obtain ⟨x, q, hx, ef, e50, e23, e42, hq⟩ := hf1.elim (fun e => absurd e.1 hne) id
  have hQ : Q.length = q + 1 := nI_inj (by have := w10; omega) (by omega) (w3.symm.trans e42)
  cases Q with
  | nil => simp at hQ
  | cons x' Q =>
  have hx' : x' = x := by
    obtain ⟨-, e2, e3⟩ := w5 0 (by simp)
    have e4 : (x' :: Q)[0] = x' := rfl
    rw [e4] at e2 e3
    exact nI_inj (by omega) (by omega) (e2.symm.trans e50)
  subst hx'
  have hQ' : Q.length = q := by simpa using hQ
  obtain ⟨M, eM⟩ : ∃ y, y = p_take1 n (nI v) mi := ⟨_, rfl⟩
  obtain ⟨N, eN⟩ : ∃ y, y = q_take (nI v) qi := ⟨_, rfl⟩
  rw [← eM, ← eN]
  rw [p_take_is hn w1 (by omega) (by omega) (by omega) w2 e42 ef] at eM
  rw [q_take_is (by omega) (by omega) (by omega) e23 e50] at eN
  have mo : ∀ a b, a ≠ 4 → a ≠ 29 → a ≠ 25 → a ≠ 5 → M a b = mi a b := fun a b q1 q2 q3 q4 => by rw [eM]; simp [zw_up, q1, q2, q3, q4]
  have m41 : M 4 1 = nI ((hd + 1) % n) := by rw [eM]; simp [zw_up]
  have m42 : M 4 2 = nI q := by rw [eM]; simp [zw_up]
  have m29 : M 29 v = nI x' := by rw [eM]; simp [zw_up]
  have m29' : ∀ b, b ≠ v → M 29 b = mi 29 b := fun b q1 => by rw [eM]; simp [zw_up, q1]
  have m25 : M 25 x' = mi 25 x' + 1 := by rw [eM]; simp [zw_up]
  have m25' : ∀ b, b ≠ x' → M 25 b = mi 25 b := fun b q1 => by rw [eM]; simp [zw_up, q1]
  have m59 : M 5 9 = mi 5 9 + mi 8 x' := by rw [eM]; simp [zw_up]
  have m510 : M 5 10 = if mi 5 10 < mi 5 9 + mi 8 x' then mi 5 9 + mi 8 x' else mi 5 10 := by rw [eM]; simp [zw_up]
  have m5 : ∀ b, b ≠ 9 → b ≠ 10 → M 5 b = mi 5 b := fun b q1 q2 => by rw [eM]; simp [zw_up, q1, q2]
  have no : ∀ a b, a ≠ 32 → a ≠ 49 → a ≠ 50 → a ≠ 52 → N a b = qi a b := fun a b q1 q2 q3 q4 => by rw [eN]; simp [zw_up, q1, q2, q3, q4]
  have n23 : N 32 23 = nI q := by rw [eN]; simp [zw_up]
  have n24 : N 32 24 = qi 32 24 + qi 34 x' := by rw [eN]; simp [zw_up]
  have n34 : N 32 34 = if qi 32 34 < qi 32 24 + qi 34 x' then qi 32 24 + qi 34 x' else qi 32 34 := by rw [eN]; simp [zw_up]
  have n32 : ∀ b, b ≠ 23 → b ≠ 24 → b ≠ 34 → N 32 b = qi 32 b := fun b q1 q2 q3 => by rw [eN]; simp [zw_up, q1, q2, q3]
  have n49 : N 49 v = nI x' := by rw [eN]; simp [zw_up]
  have n49' : ∀ b, b ≠ v → N 49 b = qi 49 b := fun b q1 => by rw [eN]; simp [zw_up, q1]
  have n50 : ∀ k, k < q → N 50 k = qi 50 (k + 1) := fun k q1 => by rw [eN]; simp [zw_up, q1]
  have n50' : ∀ k, ¬ k < q → N 50 k = qi 50 k := fun k q1 => by rw [eN]; simp [zw_up, q1]
  have n52 : N 52 x' = qi 52 x' + 1 := by rw [eN]; simp [zw_up]
  have n52' : ∀ b, b ≠ x' → N 52 b = qi 52 b := fun b q1 => by rw [eN]; simp [zw_up, q1]
  clear eM eN
  obtain ⟨c0, -, c1, c2⟩ := hS.1.2.2.2.2.2.1 x' hx
  have e34 : qi 34 x' = mi 8 x' := by rw [c1, c2]
  have hnd := List.nodup_cons.mp w6
  have hlive : zr_live (N 49) w = zr_live (qi 49) w := zr_live_same fun u hu => by
    by_cases e : u = v
    · subst e
      rw [n49, hl]
      exact ⟨fun e9 => absurd e9 (nI_m2 (by omega)), fun e9 => absurd e9 (by decide)⟩
    · rw [n49' u e]
  have hcnt : zr_cnt (N 49) w = zr_cnt (qi 49) w + 1 := zr_cnt_up hv (fun u hu e => n49' u e) (Or.inl hl) (by rw [n49]; exact fun e9 => e9.elim (nI_m1 (by omega)) (nI_m2 (by omega)))
  refine ⟨hw, hS.same (fun a b hs => mo a b (by unfold zx_st at hs; omega) (by unfold zx_st at hs; omega) (by unfold zx_st at hs; omega) (by unfold zx_st at hs; omega)) (fun _ => rfl) (fun a b hs => ?_) (fun _ => rfl), hV, ⟨⟨f, r1, ?_, ?_, fun k hk => ?_⟩, fun i hi => ?_, fun i j hi hj => ?_, ⟨?_, ?_, ?_, ?_, ?_⟩, fun k hk => ?_, fun k hk => ?_⟩,
    ⟨(hd + 1) % n, f', Q, Nat.mod_lt _ (by omega), m41, by rw [m42, hQ'], by rw [n23, hQ'], fun k hk => ?_, hnd.2, fun y hy u hu' => ?_, fun y hy => ?_, ?_, ?_⟩, ⟨?_, ?_, fun k hk => ?_⟩, ⟨fun u hu' => ?_, fun u t hu' ht hut e => ?_⟩, fun i hi => ?_, ?_, fun i hi => ?_, fun k hk => ?_, fun u hu' => ?_⟩
  · unfold zq_st at hs
    by_cases e : a = 32
    · subst e
      exact n32 b (by omega) (by omega) (by omega)
    · exact no a b e (by omega) (by omega) (by omega)
  · rw [m5 8 (by decide) (by decide)]; exact r2
  · rw [n32 29 (by decide) (by decide) (by decide)]; exact r3
  · rw [no 51 k (by decide) (by decide) (by decide) (by decide), mo 27 k (by decide) (by decide) (by decide) (by decide)]; exact r4 k hk
  · by_cases e : i = x'
    · subst e
      rw [n52, m25, r5 i hi]
    · rw [n52' i e, m25' i e]; exact r5 i hi
  · rw [no 53 _ (by decide) (by decide) (by decide) (by decide), mo (128 + i) j (by omega) (by omega) (by omega) (by omega)]; exact r6 i j hi hj
  · rw [n32 30 (by decide) (by decide) (by decide), m5 11 (by decide) (by decide)]; exact r7
  · rw [n32 31 (by decide) (by decide) (by decide), m5 12 (by decide) (by decide)]; exact r8
  · rw [n32 32 (by decide) (by decide) (by decide), m5 13 (by decide) (by decide)]; exact r9
  · rw [n32 33 (by decide) (by decide) (by decide), m5 14 (by decide) (by decide)]; exact r10
  · rw [n34, m510, r11, hu, e34]
  · rw [no 44 k (by decide) (by decide) (by decide) (by decide), mo 18 k (by decide) (by decide) (by decide) (by decide)]; exact r12 k hk
  · by_cases c : k < q
    · rw [n50 k c]; exact r13 (k + 1) (by omega)
    · rw [n50' k c]; exact r13 k hk
  · obtain ⟨g1, g2, g3⟩ := w5 (k + 1) (by simp; omega)
    have e4 : (x' :: Q)[k + 1]'(by simp; omega) = Q[k] := List.getElem_cons_succ ..
    rw [e4] at g1 g2 g3
    refine ⟨?_, by rw [n50 k (by omega)]; exact g2, g3⟩
    rw [mo 22 _ (by decide) (by decide) (by decide) (by decide), ← g1]
    congr 1
    rw [Nat.mod_add_mod]
    congr 1
    omega
  · by_cases e : u = v
    · subst e
      rw [n49]
      intro e9
      have e8 := w5
      have hyn : y < n := by
        obtain ⟨k, hk, ek⟩ := List.getElem_of_mem (List.mem_cons_of_mem x' hy)
        have := (w5 k hk).2.2
        rw [ek] at this
        exact this
      have := nI_inj (by omega) (by omega) e9
      exact hnd.1 (this ▸ hy)
    · rw [n49' u e]; exact w7 y (List.mem_cons_of_mem _ hy) u hu'
  · rw [mo 23 y (by decide) (by decide) (by decide) (by decide), mo 7 y (by decide) (by decide) (by decide) (by decide)]; exact w8 y (List.mem_cons_of_mem _ hy)
  · rw [m5 8 (by decide) (by decide)]; exact w9
  · rw [hcnt]
    simp only [List.length_cons] at w10
    omega
  · rw [hlive, mo 6 2 (by decide) (by decide) (by decide) (by decide)]; exact l1
  · rw [hlive, n32 25 (by decide) (by decide) (by decide)]; exact l2
  · simp only [hlive] at hk ⊢
    rw [mo 28 k (by decide) (by decide) (by decide) (by decide)]; exact l3 k hk
  · by_cases e : u = v
    · subst e
      right
      rw [n49, m29]
      refine ⟨rfl, Or.inr ⟨vp_in_nI hx (by omega), ?_⟩⟩
      rw [nI_clamp (by omega), mo 23 _ (by decide) (by decide) (by decide) (by decide), mo 7 _ (by decide) (by decide) (by decide) (by decide)]
      exact w8 x' List.mem_cons_self
    · rw [n49' u e, m29' u e, mo 23 _ (by decide) (by decide) (by decide) (by decide), mo 7 _ (by decide) (by decide) (by decide) (by decide)]; exact h1 u hu'
  · by_cases e1 : u = v
    · subst e1
      rw [n49, n49' t (fun e9 => hut e9.symm)] at e
      exact absurd e.symm (w7 x' List.mem_cons_self t ht)
    · by_cases e2 : t = v
      · subst e2
        rw [n49, n49' u e1] at e
        exact absurd e (w7 x' List.mem_cons_self u hu')
      · rw [n49' u e1, n49' t e2] at e
        rw [n49' u e1]
        exact h2 u t hu' ht hut e
  · rw [mo 23 _ (by decide) (by decide) (by decide) (by decide), mo 7 _ (by decide) (by decide) (by decide) (by decide), no 48 _ (by decide) (by decide) (by decide) (by decide)]; exact hD i hi
  · rw [n24, m59, hu, e34]
  · rw [mo 22 _ (by decide) (by decide) (by decide) (by decide)]; exact i1 i hi
  · rw [mo 28 _ (by decide) (by decide) (by decide) (by decide)]; exact i2 k hk
  · by_cases e : u = v
    · subst e
      rw [m29]; exact Or.inr (vp_in_nI hx (by omega))
    · rw [m29' u e]; exact i3 u hu'
end ZR
