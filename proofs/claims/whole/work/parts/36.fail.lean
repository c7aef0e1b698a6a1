theorem p_lose_is {v c : Nat} (hv : v < 16) (hc : c ≤ 16) : ∀ (S : List Nat) (f q k : Nat) (mi : zw_I), S.length < f → q ≤ k → k + S.length = c → (∀ s ∈ S, s < 16) → mi 6 2 = nI c → (∀ (i : Nat) (hi : i < S.length), mi 28 (k + i) = nI S[i]) →
    p_lose (nI v) f (nI q) (nI k) mi 6 2 = nI (q + (S.filter (fun u => decide (¬ u = v))).length) ∧ (∀ (i : Nat) (hi : i < (S.filter (fun u => decide (¬ u = v))).length), p_lose (nI v) f (nI q) (nI k) mi 28 (q + i) = nI (S.filter (fun u => decide (¬ u = v)))[i]) ∧ ∀ i : Nat, i < q → p_lose (nI v) f (nI q) (nI k) mi 28 i = mi 28 i
  | S, 0, q, k, mi, hf, _, _, _, _, _ => by omega
  | [], f + 1, q, k, mi, hf, h1, h2, hs, e, hm => by
    rw [p_lose, e]
    simp only [List.length_nil] at h2
    rw [if_pos (by rw [show k = c by omega]; exact Int32.le_refl _)]
    refine ⟨?_, fun i hi => by simp at hi, fun i hi => zw_up_ne1 _ _ _ (by decide)⟩
    rw [zw_up_self]
    simp
  | s :: S, f + 1, q, k, mi, hf, h1, h2, hs, e, hm => by
    simp only [List.length_cons] at h2 hf
    have hs0 : s < 16 := hs s List.mem_cons_self
    have e0 : mi 28 k = nI s := by
      have := hm 0 (by simp)
      rw [Nat.add_zero] at this
      exact this
    have hm' : ∀ (i : Nat) (hi : i < S.length), mi 28 (k + 1 + i) = nI S[i] := fun i hi => by
      have := hm (i + 1) (by simp; omega)
      rw [show k + (i + 1) = k + 1 + i by omega] at this
      exact this
    rw [p_lose, e, if_neg (fun h9 => by have := zn_le (by omega) (by omega) h9; omega), nI_clamp (by omega), nI_1, nI_1, nI_clamp (by omega), e0]
    by_cases c1 : s = v
    · subst c1
      have ef : (s :: S).filter (fun u => decide (¬ u = s)) = S.filter (fun u => decide (¬ u = s)) := List.filter_cons_of_neg (by simp)
      rw [if_pos rfl]
      simp only [ef]
      exact p_lose_is hv hc S f q (k + 1) mi (by omega) (by omega) (by omega) (fun s hs' => hs s (List.mem_cons_of_mem _ hs')) e hm'
    · have ef : (s :: S).filter (fun u => decide (¬ u = v)) = s :: S.filter (fun u => decide (¬ u = v)) := List.filter_cons_of_pos (by simp [c1])
      rw [if_neg (fun h9 => c1 (nI_inj (by omega) (by omega) h9))]
      obtain ⟨i1, i2, i3⟩ := p_lose_is hv hc S f (q + 1) (k + 1) (zw_up mi 28 q (nI s)) (by omega) (by omega) (by omega) (fun s hs' => hs s (List.mem_cons_of_mem _ hs')) (by rw [zw_up_ne1 _ _ _ (by decide)]; exact e) (fun i hi => by rw [zw_up_ne2 _ _ _ (by omega)]; exact hm' i hi)
      simp only [ef]
      refine ⟨?_, fun i hi => ?_, fun i hi => ?_⟩
      · rw [i1]
        congr 1
        simp only [List.length_cons]
        omega
      · cases i with
        | zero =>
          have i4 := i3 q (by omega)
          rw [zw_up_self] at i4
          exact i4
        | succ i =>
          have := i2 i (by simpa using hi)
          rw [show q + (i + 1) = q + 1 + i by omega, this]
          rfl
      · rw [i3 i (by omega), zw_up_ne2 _ _ _ (by omega)]
theorem p_lose_in {c : Nat} {wk : Int32} (hc : c ≤ 16) : ∀ (f q k : Nat) (mi : zw_I), q ≤ k → k ≤ c → mi 6 2 = nI c → (∀ i : Nat, i < 16 → vp_in (mi 28 i) 16) → ∀ i : Nat, i < 16 → vp_in (p_lose wk f (nI q) (nI k) mi 28 i) 16
  | 0, _, _, _, _, _, _, h => h
  | f + 1, q, k, mi, h1, h2, e, h => fun i hi => by
    rw [p_lose, e]
    by_cases c1 : nI c ≤ nI k
    · rw [if_pos c1, zw_up_ne1 _ _ _ (by decide)]
      exact h i hi
    · have hk : k < c := zn_lt (by omega) c1
      rw [if_neg c1, nI_1, nI_1, nI_clamp (by omega), nI_clamp (by omega)]
      by_cases c2 : mi 28 k = wk
      · rw [if_pos c2]
        exact p_lose_in hc f q (k + 1) mi (by omega) (by omega) e h i hi
      · rw [if_neg c2]
        refine p_lose_in hc f (q + 1) (k + 1) _ (by omega) (by omega) (by rw [zw_up_ne1 _ _ _ (by decide)]; exact e) (fun u hu => ?_) i hi
        by_cases c3 : u = q
        · subst c3
          rw [zw_up_self]
          exact h k (by omega)
        · rw [zw_up_ne2 _ _ _ c3]
          exact h u hu
theorem zr_less {v : Nat} : ∀ {S : List Nat}, S.Nodup → v ∈ S → (S.filter (fun u => decide (¬ u = v))).length + 1 = S.length
  | [], _, h => by cases h
  | s :: S, hn, h => by
    obtain ⟨n1, n2⟩ := List.nodup_cons.mp hn
    by_cases c : s = v
    · subst c
      have : S.filter (fun u => decide (¬ u = s)) = S := List.filter_eq_self.mpr fun u hu => by
        rw [decide_eq_true_iff]
        exact fun e => n1 (e ▸ hu)
      rw [List.filter_cons_of_neg (by simp), this]
      rfl
    · rw [List.filter_cons_of_pos (by simp [c])]
      have hm : v ∈ S := (List.mem_cons.mp h).elim (fun e => absurd e.symm c) id
      have := zr_less n2 hm
      simp only [List.length_cons]
      omega
theorem zr_live_nd {g : Nat → Int32} {w : Nat} : (zr_live g w).Nodup := List.Pairwise.filter _ List.nodup_range
section ZR
variable {n w : Nat} {mi mi' qi qi' : zw_I} {ml ml' ql ql' : zw_L}
theorem p_fail_is {hd q x v : Nat} (hn : n ≤ 16) (hh : hd < n) (hq : q < n) (hx : x < 16) (e1 : mi 4 1 = nI hd) (e2 : mi 4 2 = nI q) :
    p_fail n (nI v) (nI x) mi = zw_up (zw_up (zw_up (zw_up (p_lose (nI v) 17 0 0 mi) 23 x 0) 5 9 (mi 5 9 - mi 8 x)) 22 ((hd + q) % n) (nI x)) 4 2 (nI (q + 1)) := by
  have f1 : p_fail1 (nI v) (nI x) mi = zw_up (p_lose (nI v) 17 0 0 mi) 23 x 0 := by
    unfold p_fail1
    rw [nI_clamp (by omega)]
  have o4 : ∀ b, zw_up (p_lose (nI v) 17 0 0 mi) 23 x 0 4 b = mi 4 b := fun b => by rw [zw_up_ne1 _ _ _ (by decide), p_lose_off (by decide) (by decide)]
  have o5 : ∀ b, zw_up (p_lose (nI v) 17 0 0 mi) 23 x 0 5 b = mi 5 b := fun b => by rw [zw_up_ne1 _ _ _ (by decide), p_lose_off (by decide) (by decide)]
  have o8 : ∀ b, zw_up (p_lose (nI v) 17 0 0 mi) 23 x 0 8 b = mi 8 b := fun b => by rw [zw_up_ne1 _ _ _ (by decide), p_lose_off (by decide) (by decide)]
  have ew : p_wrapped n (nI hd + nI q) = nI ((hd + q) % n) := by
    unfold p_wrapped
    rw [nI_add]
    by_cases c : nI n ≤ nI (hd + q)
    · have := zn_le (by omega) (by omega) c
      rw [if_pos c, pk_sub this, Nat.mod_eq_sub_mod this, Nat.mod_eq_of_lt (by omega)]
    · have := zn_lt (by omega) c
      rw [if_neg c, Nat.mod_eq_of_lt this]
  have hm : (hd + q) % n < n := Nat.mod_lt _ (by omega)
  unfold p_fail p_fail2 p_append p_append1
  rw [f1, nI_clamp (by omega), zw_up_ne1 (zw_up (p_lose (nI v) 17 0 0 mi) 23 x 0) _ _ (by decide), zw_up_ne1 (zw_up (p_lose (nI v) 17 0 0 mi) 23 x 0) _ _ (by decide), o4, o4, o5, o8, e1, e2, if_neg (nI_ge hq (by omega)), ew, nI_clamp (by omega), zw_up_ne1 (zw_up (zw_up (p_lose (nI v) 17 0 0 mi) 23 x 0) 5 9 _) _ _ (by decide), zw_up_ne1 (zw_up (p_lose (nI v) 17 0 0 mi) 23 x 0) _ _ (by decide), o4, e2, nI_1]
theorem q_die_is {q x v c : Nat} (hq : q < 16) (hx : x < 16) (hv : v < 16) (e2 : qi 32 23 = nI q) (e3 : qi 32 25 = nI (c + 1)) :
    q_die (nI v) (nI x) qi = zw_up (zw_up (zw_up (zw_up (zw_up (zw_up qi 49 v (-2)) 32 25 (nI c)) 48 x 0) 32 24 (qi 32 24 - qi 34 x)) 50 q (nI x)) 32 23 (nI (q + 1)) := by
  unfold q_die q_die1 q_die2 q_die3 q_die4 q_die5
  rw [nI_clamp (by omega), nI_clamp (by omega)]
  simp [zw_up, e2, e3, nI_pred, nI_1, nI_clamp (show q < 2 ^ 31 by omega)]
theorem zr_die (h : zr n w mi ml qi ql) {v x j : Nat} (hv : v < w) (hx : x < n) (hh : qi 49 v = nI x) (hj : j < 8) : zr n w (p_fail n (nI v) (nI x) (zw_up mi 18 j (mi 18 j - 1))) ml (q_die (nI v) (nI x) (zw_up qi 44 j (mi 18 j - 1))) ql := by
  have hn := zr_n h
  obtain ⟨d, t, hdt, ht, d1, d2, d3⟩ := h.2.2.2.2.2.2.2.1 x hx
  obtain ⟨t', ht1, ht2, t1, t2⟩ := h.2.1.1.2.2.2.2.1 x hx
  obtain ⟨c0, -, c1, c2⟩ := h.2.1.1.2.2.2.2.2.1 x hx
  have e34 : qi 34 x = mi 8 x := by rw [c1, c2]
  obtain ⟨hw, hS, hV, ⟨⟨f, r1, r2, r3, r4⟩, r5, r6, ⟨r7, r8, r9, r10, r11⟩, r12, r13⟩, ⟨hd, f', Q, w1, w2, w3, w4, w5, w6, w7, w8, w9, w10⟩, ⟨l1, l2, l3⟩, ⟨h1, h2⟩, hD, hu, i1, i2, i3⟩ := h
  have hff : f' = f := nI_inj (by omega) (by omega) (w9.symm.trans r2)
  subst hff
  have hne : ¬ (nI x = -1 ∨ nI x = -2) := fun e9 => e9.elim (nI_m1 (by omega)) (nI_m2 (by omega))
  have hpos := zr_cnt_pos (g := qi 49) hv (by rw [hh]; exact hne)
  have hQx : ∀ y ∈ Q, y ≠ x := fun y hy e => w7 y hy v hv (by rw [e]; exact hh)
  have hyn : ∀ y ∈ Q, y < n := fun y hy => by
    obtain ⟨k, hk, ek⟩ := List.getElem_of_mem hy
    have := (w5 k hk).2.2
    rw [ek] at this
    exact this
  have hoth : ∀ u, u < w → u ≠ v → ¬ qi 49 u = -2 → ¬ qi 49 u = -1 → ¬ (qi 49 u).toNatClampNeg = x := fun u hu' e e2 e1 ex => by
    have hin : vp_in (qi 49 u) n := (h1 u hu').elim (fun q => absurd q e2) (fun q => q.2.elim (fun q => absurd q e1) (fun q => q.1))
    obtain ⟨y, hy, ey, ec⟩ := zv_of hin (by omega)
    rw [ec] at ex
    subst ex
    exact (h2 u v hu' hv e (by rw [ey, hh])).elim e1 e2
  have hvm : v ∈ zr_live (qi 49) w := zr_live_mem.mpr ⟨hv, by rw [hh]; exact fun e9 => hne (Or.inr e9)⟩
  have hless := zr_less zr_live_nd hvm
  have hlen := zr_live_len (g := qi 49) (w := w)
  obtain ⟨c, hc⟩ : ∃ c, (zr_live (qi 49) w).length = c + 1 := ⟨_, hless.symm⟩
  obtain ⟨K, eK⟩ : ∃ y, y = p_lose (nI v) 17 0 0 (zw_up mi 18 j (mi 18 j - 1)) := ⟨_, rfl⟩
  obtain ⟨k62, k28, -⟩ := p_lose_is (v := v) (c := (zr_live (qi 49) w).length) (by omega) (by omega) (zr_live (qi 49) w) 17 0 0 (zw_up mi 18 j (mi 18 j - 1)) (by omega) (by omega) (by omega) (fun s hs => by have := (zr_live_mem.mp hs).1; omega) (by rw [zw_up_ne1 _ _ _ (by decide)]; exact l1) (fun i hi => by rw [zw_up_ne1 _ _ _ (by decide), Nat.zero_add]; exact l3 i hi)
  have kin := p_lose_in (c := (zr_live (qi 49) w).length) (wk := nI v) (by omega) 17 0 0 (zw_up mi 18 j (mi 18 j - 1)) (by omega) (by omega) (by rw [zw_up_ne1 _ _ _ (by decide)]; exact l1) (fun i hi => by rw [zw_up_ne1 _ _ _ (by decide)]; exact i2 i hi)
  have koff : ∀ a b, a ≠ 6 → a ≠ 28 → K a b = zw_up mi 18 j (mi 18 j - 1) a b := fun a b q1 q2 => by rw [eK]; exact p_lose_off q1 q2 _ _ _ _
  rw [show nI 0 = (0 : Int32) from rfl, ← eK] at k62 k28 kin
  obtain ⟨M, eM⟩ : ∃ y, y = p_fail n (nI v) (nI x) (zw_up mi 18 j (mi 18 j - 1)) := ⟨_, rfl⟩
  obtain ⟨N, eN⟩ : ∃ y, y = q_die (nI v) (nI x) (zw_up qi 44 j (mi 18 j - 1)) := ⟨_, rfl⟩
  rw [← eM, ← eN]
  rw [p_fail_is hn w1 (q := Q.length) (by omega) (by omega) (by rw [zw_up_ne1 _ _ _ (by decide)]; exact w2) (by rw [zw_up_ne1 _ _ _ (by decide)]; exact w3), ← eK] at eM
  rw [q_die_is (q := Q.length) (c := c) (by omega) (by omega) (by omega) (by rw [zw_up_ne1 _ _ _ (by decide)]; exact w4) (by rw [zw_up_ne1 _ _ _ (by decide), ← hc]; exact l2)] at eN
  have mo : ∀ a b, a ≠ 4 → a ≠ 5 → a ≠ 6 → a ≠ 18 → a ≠ 22 → a ≠ 23 → a ≠ 28 → M a b = mi a b := fun a b q1 q2 q3 q4 q5 q6 q7 => by
    rw [eM, zw_up_ne1 _ _ _ q1, zw_up_ne1 _ _ _ q5, zw_up_ne1 _ _ _ q2, zw_up_ne1 _ _ _ q6, koff a b q3 q7, zw_up_ne1 _ _ _ q4]
  have m41 : M 4 1 = nI hd := by rw [eM, zw_up_ne2 _ _ _ (by decide), zw_up_ne1 _ _ _ (by decide), zw_up_ne1 _ _ _ (by decide), zw_up_ne1 _ _ _ (by decide), koff 4 1 (by decide) (by decide), zw_up_ne1 _ _ _ (by decide)]; exact w2
  have m42 : M 4 2 = nI (Q.length + 1) := by rw [eM, zw_up_self]
  have m22 : M 22 ((hd + Q.length) % n) = nI x := by rw [eM, zw_up_ne1 _ _ _ (by decide), zw_up_self]
  have m22' : ∀ b, b ≠ (hd + Q.length) % n → M 22 b = mi 22 b := fun b q1 => by rw [eM, zw_up_ne1 _ _ _ (by decide), zw_up_ne2 _ _ _ q1, zw_up_ne1 _ _ _ (by decide), zw_up_ne1 _ _ _ (by decide), koff 22 b (by decide) (by decide), zw_up_ne1 _ _ _ (by decide)]
  have m59 : M 5 9 = mi 5 9 - mi 8 x := by rw [eM, zw_up_ne1 _ _ _ (by decide), zw_up_ne1 _ _ _ (by decide), zw_up_self, zw_up_ne1 _ _ _ (by decide), zw_up_ne1 _ _ _ (by decide)]
  have m5 : ∀ b, b ≠ 9 → M 5 b = mi 5 b := fun b q1 => by rw [eM, zw_up_ne1 _ _ _ (by decide), zw_up_ne1 _ _ _ (by decide), zw_up_ne2 _ _ _ q1, zw_up_ne1 _ _ _ (by decide), koff 5 b (by decide) (by decide), zw_up_ne1 _ _ _ (by decide)]
  have m23 : M 23 x = nI 0 := by rw [eM, zw_up_ne1 _ _ _ (by decide), zw_up_ne1 _ _ _ (by decide), zw_up_ne1 _ _ _ (by decide), zw_up_self]; rfl
  have m23' : ∀ b, b ≠ x → M 23 b = mi 23 b := fun b q1 => by rw [eM, zw_up_ne1 _ _ _ (by decide), zw_up_ne1 _ _ _ (by decide), zw_up_ne1 _ _ _ (by decide), zw_up_ne2 _ _ _ q1, koff 23 b (by decide) (by decide), zw_up_ne1 _ _ _ (by decide)]
  have m18 : ∀ b, M 18 b = zw_up mi 18 j (mi 18 j - 1) 18 b := fun b => by rw [eM, zw_up_ne1 _ _ _ (by decide), zw_up_ne1 _ _ _ (by decide), zw_up_ne1 _ _ _ (by decide), zw_up_ne1 _ _ _ (by decide), koff 18 b (by decide) (by decide)]
  have m6 : M 6 2 = K 6 2 := by rw [eM, zw_up_ne1 _ _ _ (by decide), zw_up_ne1 _ _ _ (by decide), zw_up_ne1 _ _ _ (by decide), zw_up_ne1 _ _ _ (by decide)]
  have m28 : ∀ b, M 28 b = K 28 b := fun b => by rw [eM, zw_up_ne1 _ _ _ (by decide), zw_up_ne1 _ _ _ (by decide), zw_up_ne1 _ _ _ (by decide), zw_up_ne1 _ _ _ (by decide)]
  have no : ∀ a b, a ≠ 32 → a ≠ 44 → a ≠ 48 → a ≠ 49 → a ≠ 50 → N a b = qi a b := fun a b q1 q2 q3 q4 q5 => by rw [eN]; simp [zw_up, q1, q2, q3, q4, q5]
  have n23 : N 32 23 = nI (Q.length + 1) := by rw [eN]; simp [zw_up]
  have n24 : N 32 24 = qi 32 24 - qi 34 x := by rw [eN]; simp [zw_up]
  have n25 : N 32 25 = nI c := by rw [eN]; simp [zw_up]
  have n32 : ∀ b, b ≠ 23 → b ≠ 24 → b ≠ 25 → N 32 b = qi 32 b := fun b q1 q2 q3 => by rw [eN]; simp [zw_up, q1, q2, q3]
  have n49 : N 49 v = -2 := by rw [eN]; simp [zw_up]
  have n49' : ∀ b, b ≠ v → N 49 b = qi 49 b := fun b q1 => by rw [eN]; simp [zw_up, q1]
  have n50 : N 50 Q.length = nI x := by rw [eN]; simp [zw_up]
  have n50' : ∀ k, k ≠ Q.length → N 50 k = qi 50 k := fun k q1 => by rw [eN]; simp [zw_up, q1]
  have n48 : N 48 x = nI 0 := by rw [eN]; simp [zw_up]; rfl
  have n48' : ∀ b, b ≠ x → N 48 b = qi 48 b := fun b q1 => by rw [eN]; simp [zw_up, q1]
  have n44 : ∀ b, N 44 b = zw_up qi 44 j (mi 18 j - 1) 44 b := fun b => by rw [eN]; simp [zw_up]
  clear eM eN eK
  have hlive : zr_live (N 49) w = (zr_live (qi 49) w).filter (fun u => decide (¬ u = v)) := zr_live_die n49 (fun u hu e => n49' u e)
  have hcnt : zr_cnt (qi 49) w = zr_cnt (N 49) w + 1 := zr_cnt_up hv (fun u hu e => (n49' u e).symm) (Or.inr n49) (by rw [hh]; exact hne)
  have hmodne : ∀ k, k < Q.length → (hd + k) % n ≠ (hd + Q.length) % n := fun k hk e => by
    have a1 := Nat.mod_lt (hd + k) (show 0 < n by omega)
    rcases Nat.lt_or_ge (hd + k) n with q1 | q1 <;> rcases Nat.lt_or_ge (hd + Q.length) n with q2 | q2
    · rw [Nat.mod_eq_of_lt q1, Nat.mod_eq_of_lt q2] at e; omega
    · rw [Nat.mod_eq_of_lt q1, Nat.mod_eq_sub_mod q2, Nat.mod_eq_of_lt (by omega)] at e; omega
    · omega
    · rw [Nat.mod_eq_sub_mod q1, Nat.mod_eq_sub_mod q2, Nat.mod_eq_of_lt (by omega), Nat.mod_eq_of_lt (by omega)] at e; omega
  refine ⟨hw, hS.same (fun a b hs => mo a b (by unfold zx_st at hs; omega) (by unfold zx_st at hs; omega) (by unfold zx_st at hs; omega) (by unfold zx_st at hs; omega) (by unfold zx_st at hs; omega) (by unfold zx_st at hs; omega) (by unfold zx_st at hs; omega)) (fun _ => rfl) (fun a b hs => ?_) (fun _ => rfl), hV, ⟨⟨f', r1, ?_, ?_, fun k hk => ?_⟩, fun i hi => ?_, fun i j hi hj => ?_, ⟨?_, ?_, ?_, ?_, ?_⟩, fun k hk => ?_, fun k hk => ?_⟩,
    ⟨hd, f', Q ++ [x], w1, m41, by rw [m42]; simp, by rw [n23]; simp, fun k hk => ?_, ?_, fun y hy u hu' => ?_, fun y hy => ?_, ?_, ?_⟩, ⟨?_, ?_, fun k hk => ?_⟩, ⟨fun u hu' => ?_, fun u q hu' hq huq e => ?_⟩, fun i hi => ?_, ?_, fun i hi => ?_, fun k hk => ?_, fun u hu' => ?_⟩
  · unfold zq_st at hs
    by_cases e : a = 32
    · subst e
      exact n32 b (by omega) (by omega) (by omega)
    · exact no a b e (by omega) (by omega) (by omega) (by omega)
  · rw [m5 8 (by decide)]; exact r2
  · rw [n32 29 (by decide) (by decide) (by decide)]; exact r3
  · rw [no 51 k (by decide) (by decide) (by decide) (by decide) (by decide), mo 27 k (by decide) (by decide) (by decide) (by decide) (by decide) (by decide) (by decide)]; exact r4 k hk
  · rw [no 52 i (by decide) (by decide) (by decide) (by decide) (by decide), mo 25 i (by decide) (by decide) (by decide) (by decide) (by decide) (by decide) (by decide)]; exact r5 i hi
  · rw [no 53 _ (by decide) (by decide) (by decide) (by decide) (by decide), mo (128 + i) j (by omega) (by omega) (by omega) (by omega) (by omega) (by omega) (by omega)]; exact r6 i j hi hj
  · rw [n32 30 (by decide) (by decide) (by decide), m5 11 (by decide)]; exact r7
  · rw [n32 31 (by decide) (by decide) (by decide), m5 12 (by decide)]; exact r8
  · rw [n32 32 (by decide) (by decide) (by decide), m5 13 (by decide)]; exact r9
  · rw [n32 33 (by decide) (by decide) (by decide), m5 14 (by decide)]; exact r10
  · rw [n32 34 (by decide) (by decide) (by decide), m5 10 (by decide)]; exact r11
  · rw [n44, m18]
    by_cases e : k = j
    · subst e
      rw [zw_up_self, zw_up_self]
    · rw [zw_up_ne2 _ _ _ e, zw_up_ne2 _ _ _ e]; exact r12 k hk
  · by_cases e : k = Q.length
    · subst e
      rw [n50]; exact vp_in_nI (by omega) (by omega)
    · rw [n50' k e]; exact r13 k hk
  · rw [List.length_append, List.length_singleton] at hk
    by_cases e : k = Q.length
    · subst e
      rw [List.getElem_concat_length rfl]
      exact ⟨m22, n50, hx⟩
    · have hk' : k < Q.length := by omega
      rw [List.getElem_append_left hk', m22' _ (hmodne k hk'), n50' k e]
      exact w5 k hk'
  · rw [List.nodup_append]
    refine ⟨w6, by simp, fun a ha b hb => ?_⟩
    rw [List.mem_singleton.mp hb]
    exact hQx a ha
  · rcases List.mem_append.mp hy with hy | hy
    · by_cases e : u = v
      · subst e
        rw [n49]
        have := hyn y hy
        exact fun e9 => nI_m2 (by omega) e9.symm
      · rw [n49' u e]; exact w7 y hy u hu'
    · rw [List.mem_singleton.mp hy]
      by_cases e : u = v
      · subst e
        rw [n49]
        exact fun e9 => hne (Or.inr e9.symm)
      · rw [n49' u e]
        intro e9
        have := h2 u v hu' hv e (by rw [e9, hh])
        rw [e9] at this
        exact hne this
  · rw [mo 7 y (by decide) (by decide) (by decide) (by decide) (by decide) (by decide) (by decide)]
    rcases List.mem_append.mp hy with hy | hy
    · rw [m23' y (hQx y hy)]; exact w8 y hy
    · rw [List.mem_singleton.mp hy, m23, t1]
      exact fun e9 => by have := nI_inj (by omega) (by omega) e9; omega
  · rw [m5 8 (by decide)]; exact w9
  · rw [List.length_append, List.length_singleton]
    omega
  · rw [hlive, m6, k62, Nat.zero_add]
  · rw [hlive, n25]
    congr 1
    omega
  · simp only [hlive] at hk ⊢
    have := k28 k hk
    rw [Nat.zero_add] at this
    rw [m28]; exact this
  · by_cases e : u = v
    · subst e
      exact Or.inl n49
    · rw [n49' u e, mo 29 u (by decide) (by decide) (by decide) (by decide) (by decide) (by decide) (by decide), mo 7 _ (by decide) (by decide) (by decide) (by decide) (by decide) (by decide) (by decide)]
      rcases h1 u hu' with e0 | ⟨e0, e' | ⟨e1, e2⟩⟩
      · exact Or.inl e0
      · exact Or.inr ⟨e0, Or.inl e'⟩
      · by_cases e3 : qi 49 u = -2
        · exact Or.inl e3
        · by_cases e4 : qi 49 u = -1
          · exact Or.inr ⟨e0, Or.inl e4⟩
          · refine Or.inr ⟨e0, Or.inr ⟨e1, ?_⟩⟩
            rw [m23' _ (hoth u hu' e e3 e4)]; exact e2
  · by_cases e1 : u = v
    · subst e1
      rw [n49]; exact Or.inr rfl
    · by_cases e2 : q = v
      · subst e2
        rw [n49, n49' u e1] at e
        rw [n49' u e1]; exact Or.inr e
      · rw [n49' u e1, n49' q e2] at e
        rw [n49' u e1]
        exact h2 u q hu' hq huq e
  · rw [mo 7 i (by decide) (by decide) (by decide) (by decide) (by decide) (by decide) (by decide)]
    by_cases e : i = x
    · subst e
      exact ⟨0, t, by omega, ht, m23, n48, d3⟩
    · rw [m23' i e, n48' i e]; exact hD i hi
  · rw [n24, m59, hu, e34]
  · by_cases e : i = (hd + Q.length) % n
    · subst e
      rw [m22]; exact vp_in_nI hx (by omega)
    · rw [m22' i e]; exact i1 i hi
  · rw [m28]; exact kin k hk
  · rw [mo 29 u (by decide) (by decide) (by decide) (by decide) (by decide) (by decide) (by decide)]; exact i3 u hu'
end ZR
