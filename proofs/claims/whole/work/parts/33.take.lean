/-! the ticks: each keeps what is alike -/
section ZR
variable {n w : Nat} {mi mi' qi qi' : zw_I} {ml ml' ql ql' : zw_L}
/-- only counts change, or the table of waits -/
theorem zr_keep (h : zr n w mi ml qi ql) (hx : ∀ a b, a ≠ 5 → a < 128 → mi' a b = mi a b) (h8 : mi' 5 8 = mi 5 8) (h9 : mi' 5 9 = mi 5 9) (hq : ∀ a b, a ≠ 32 → a ≠ 53 → qi' a b = qi a b) (hq1 : ∀ b, b = 1 ∨ b = 2 ∨ b = 15 ∨ b = 16 ∨ b = 23 ∨ b = 24 ∨ b = 25 ∨ b = 29 → qi' 32 b = qi 32 b) (hR : zj_R n mi' qi') : zr n w mi' ml qi' ql := by
  have hn := zr_n h
  obtain ⟨hw, hS, hV, -, ⟨hd, f, Q, w1, w2, w3, w4, w5, w6, w7, w8, w9, w10⟩, ⟨l1, l2, l3⟩, ⟨h1, h2⟩, hD, hu, i1, i2, i3⟩ := h
  have e49 : qi' 49 = qi 49 := funext fun b => hq 49 b (by decide) (by decide)
  refine ⟨hw, hS.same (fun a b hs => hx a b (by unfold zx_st at hs; omega) (by unfold zx_st at hs; omega)) (fun _ => rfl) (fun a b hs => ?_) (fun _ => rfl), hV, hR, ⟨hd, f, Q, w1, ?_, ?_, ?_, fun k hk => ?_, w6, ?_, fun x hxq => ?_, ?_, ?_⟩, ⟨?_, ?_, fun k hk => ?_⟩, ⟨fun v hv => ?_, ?_⟩, fun i hi => ?_, ?_, fun i hi => ?_, fun k hk => ?_, fun v hv => ?_⟩
  · unfold zq_st at hs
    by_cases e : a = 32
    · subst e
      exact hq1 b (by omega)
    · exact hq a b e (by omega)
  · rw [hx 4 1 (by decide) (by decide)]; exact w2
  · rw [hx 4 2 (by decide) (by decide)]; exact w3
  · rw [hq1 23 (by omega)]; exact w4
  · rw [hx 22 _ (by decide) (by decide), hq 50 _ (by decide) (by decide)]; exact w5 k hk
  · rw [e49]; exact w7
  · rw [hx 23 _ (by decide) (by decide), hx 7 _ (by decide) (by decide)]; exact w8 x hxq
  · rw [h8]; exact w9
  · rw [e49]; exact w10
  · rw [e49, hx 6 2 (by decide) (by decide)]; exact l1
  · rw [e49, hq1 25 (by omega)]; exact l2
  · simp only [e49] at hk ⊢
    rw [hx 28 _ (by decide) (by decide)]; exact l3 k hk
  · rw [e49, hx 29 _ (by decide) (by decide), hx 23 _ (by decide) (by decide), hx 7 _ (by decide) (by decide)]; exact h1 v hv
  · rw [e49]; exact h2
  · rw [hx 23 _ (by decide) (by decide), hx 7 _ (by decide) (by decide), hq 48 _ (by decide) (by decide)]; exact hD i hi
  · rw [h9, hq1 24 (by omega)]; exact hu
  · rw [hx 22 _ (by decide) (by decide)]; exact i1 i hi
  · rw [hx 28 _ (by decide) (by decide)]; exact i2 k hk
  · rw [hx 29 _ (by decide) (by decide)]; exact i3 v hv
theorem zr_t1 (h : zr n w mi ml qi ql) : zr n w (p_t1 mi) ml (q_t1 qi) ql := by
  obtain ⟨⟨f, r1, r2, r3, r4⟩, r5, r6, ⟨r7, r8, r9, r10, r11⟩, r12, r13⟩ := h.2.2.2.1
  refine zr_keep h (fun a b h1 _ => by unfold p_t1; exact zw_up_ne1 _ _ _ h1) rfl rfl (fun a b h1 _ => by unfold q_t1; exact zw_up_ne1 _ _ _ h1) (fun b hb => by unfold q_t1; exact zw_up_ne2 _ _ _ (by omega)) ⟨⟨f, r1, r2, r3, r4⟩, r5, fun i j hi hj => ?_, ⟨?_, r8, r9, r10, r11⟩, r12, r13⟩
  · unfold p_t1 q_t1
    rw [zw_up_ne1 _ _ _ (by decide), zw_up_ne1 _ _ _ (by omega)]; exact r6 i j hi hj
  · show qi 32 30 + 1 = mi 5 11 + 1
    rw [r7]
theorem zr_idle (h : zr n w mi ml qi ql) : zr n w (zw_up mi 5 12 (mi 5 12 + 1)) ml (q_idle qi) ql := by
  obtain ⟨⟨f, r1, r2, r3, r4⟩, r5, r6, ⟨r7, r8, r9, r10, r11⟩, r12, r13⟩ := h.2.2.2.1
  refine zr_keep h (fun a b h1 _ => zw_up_ne1 _ _ _ h1) rfl rfl (fun a b h1 _ => by unfold q_idle; exact zw_up_ne1 _ _ _ h1) (fun b hb => by unfold q_idle; exact zw_up_ne2 _ _ _ (by omega)) ⟨⟨f, r1, r2, r3, r4⟩, r5, fun i j hi hj => ?_, ⟨r7, ?_, r9, r10, r11⟩, r12, r13⟩
  · unfold q_idle
    rw [zw_up_ne1 _ _ _ (by decide), zw_up_ne1 _ _ _ (by omega)]; exact r6 i j hi hj
  · show qi 32 31 + 1 = mi 5 12 + 1
    rw [r8]
theorem zr_awaits (h : zr n w mi ml qi ql) {x j o : Nat} (hx : x < n) (hj : j < 6) (ho : o < n) (eo : qi 38 (6 * x + j) = nI o) : zr n w (p_awaits (nI x) (nI o) mi) ml (q_awaits (nI x) (nI (6 * x + j)) qi) ql := by
  have hn := zr_n h
  obtain ⟨⟨f, r1, r2, r3, r4⟩, r5, r6, ⟨r7, r8, r9, r10, r11⟩, r12, r13⟩ := h.2.2.2.1
  have e1 : p_awaits (nI x) (nI o) mi = zw_up (zw_up mi (128 + x) o (mi (128 + x) o + 1)) 5 13 (mi 5 13 + 1) := by
    unfold p_awaits p_awaits2
    rw [nI_clamp (by omega), nI_clamp (by omega), zw_up_ne1 _ _ _ (by omega)]
  have e2 : q_awaits (nI x) (nI (6 * x + j)) qi = zw_up (zw_up qi 53 (16 * x + o) (qi 53 (16 * x + o) + 1)) 32 32 (qi 32 32 + 1) := by
    unfold q_awaits q_awaits2
    rw [nI_clamp (by omega), eo, show (16 : Int32) = nI 16 from rfl, pk_mul, nI_add, nI_clamp (by omega), zw_up_ne1 _ _ _ (by decide)]
  rw [e1, e2]
  refine zr_keep h (fun a b h1 h2 => by rw [zw_up_ne1 _ _ _ h1, zw_up_ne1 _ _ _ (by omega)]) ?_ ?_ (fun a b h1 h2 => by rw [zw_up_ne1 _ _ _ h1, zw_up_ne1 _ _ _ h2]) (fun b hb => by rw [zw_up_ne2 _ _ _ (by omega), zw_up_ne1 _ _ _ (by decide)]) ⟨⟨f, r1, ?_, ?_, fun k hk => ?_⟩, fun i hi => ?_, fun i j' hi hj' => ?_, ⟨?_, ?_, ?_, ?_, ?_⟩, fun k hk => ?_, fun k hk => ?_⟩
  · rw [zw_up_ne2 _ _ _ (by decide), zw_up_ne1 _ _ _ (by omega)]
  · rw [zw_up_ne2 _ _ _ (by decide), zw_up_ne1 _ _ _ (by omega)]
  · rw [zw_up_ne2 _ _ _ (by decide), zw_up_ne1 _ _ _ (by omega)]; exact r2
  · rw [zw_up_ne2 _ _ _ (by decide), zw_up_ne1 _ _ _ (by decide)]; exact r3
  · rw [zw_up_ne1 _ _ _ (by decide), zw_up_ne1 _ _ _ (by decide), zw_up_ne1 _ _ _ (by decide), zw_up_ne1 _ _ _ (by omega)]; exact r4 k hk
  · rw [zw_up_ne1 _ _ _ (by decide), zw_up_ne1 _ _ _ (by decide), zw_up_ne1 _ _ _ (by decide), zw_up_ne1 _ _ _ (by omega)]; exact r5 i hi
  · rw [zw_up_ne1 (zw_up qi 53 _ _) _ _ (by decide), zw_up_ne1 (zw_up mi (128 + x) _ _) _ _ (by omega)]
    by_cases c : i = x ∧ j' = o
    · obtain ⟨rfl, rfl⟩ := c
      rw [zw_up_self, zw_up_self, r6 i j' hi hj']
    · rw [zw_up_ne2 qi _ _ (by omega), zw_up_off mi _ (by omega)]; exact r6 i j' hi hj'
  · rw [zw_up_ne2 _ _ _ (by decide), zw_up_ne1 _ _ _ (by decide), zw_up_ne2 _ _ _ (by decide), zw_up_ne1 _ _ _ (by omega)]; exact r7
  · rw [zw_up_ne2 _ _ _ (by decide), zw_up_ne1 _ _ _ (by decide), zw_up_ne2 _ _ _ (by decide), zw_up_ne1 _ _ _ (by omega)]; exact r8
  · rw [zw_up_self, zw_up_self, r9]
  · rw [zw_up_ne2 _ _ _ (by decide), zw_up_ne1 _ _ _ (by decide), zw_up_ne2 _ _ _ (by decide), zw_up_ne1 _ _ _ (by omega)]; exact r10
  · rw [zw_up_ne2 _ _ _ (by decide), zw_up_ne1 _ _ _ (by decide), zw_up_ne2 _ _ _ (by decide), zw_up_ne1 _ _ _ (by omega)]; exact r11
  · rw [zw_up_ne1 _ _ _ (by decide), zw_up_ne1 _ _ _ (by decide), zw_up_ne1 _ _ _ (by decide), zw_up_ne1 _ _ _ (by omega)]; exact r12 k hk
  · rw [zw_up_ne1 _ _ _ (by decide), zw_up_ne1 _ _ _ (by decide)]; exact r13 k hk
theorem q_shift_is {q : Nat} (hq : q < 16) : ∀ (f k : Nat) (qi : zw_I), qi 32 23 = nI q → k ≤ q → q < k + f → q_shift f (nI k) qi = fun a b => if a = 50 ∧ k ≤ b ∧ b < q then qi 50 (b + 1) else qi a b
  | 0, k, qi, _, h1, h2 => by omega
  | f + 1, k, qi, e, h1, h2 => by
    rw [q_shift, e]
    by_cases c : nI q ≤ nI k
    · have := zn_le (by omega) (by omega) c
      rw [if_pos c]
      funext a b
      rw [if_neg (by omega)]
    · have hk : k < q := zn_lt (by omega) c
      rw [if_neg c, nI_1, nI_clamp (by omega), nI_clamp (by omega), q_shift_is hq f (k + 1) _ (by rw [zw_up_ne1 _ _ _ (by decide)]; exact e) (by omega) (by omega)]
      funext a b
      by_cases c1 : a = 50 ∧ k + 1 ≤ b ∧ b < q
      · rw [if_pos c1, if_pos (by omega), zw_up_ne2 _ _ _ (by omega)]
      · rw [if_neg c1]
        by_cases c2 : a = 50 ∧ b = k
        · obtain ⟨rfl, rfl⟩ := c2
          rw [zw_up_self, if_pos (by omega)]
        · rw [zw_up_off _ _ (by omega), if_neg (by omega)]
theorem zr_max {a b : Int32} : (if b ≤ a then a else b) = (if a < b then b else a) := by
  by_cases c : a < b
  · rw [if_pos c, if_neg (fun h => by
      have h1 := Int32.lt_iff_toInt_lt.mp c
      have h2 := Int32.le_iff_toInt_le.mp h
      omega)]
  · rw [if_neg c, if_pos (Int32.le_iff_toInt_le.mpr (by
      have h1 : ¬ a.toInt < b.toInt := fun q => c (Int32.lt_iff_toInt_lt.mpr q)
      omega))]
/-- what a take leaves in the class -/
theorem p_take_is {h q x v : Nat} (hn : n ≤ 16) (hh : h < n) (hq : q < 16) (hx : x < 16) (hv : v < 16) (e1 : mi 4 1 = nI h) (e2 : mi 4 2 = nI (q + 1)) (e3 : p_first mi = nI x) :
    p_take1 n (nI v) mi = zw_up (zw_up (zw_up (zw_up (zw_up (zw_up mi 4 1 (nI ((h + 1) % n))) 4 2 (nI q)) 29 v (nI x)) 25 x (mi 25 x + 1)) 5 9 (mi 5 9 + mi 8 x)) 5 10 (if mi 5 10 < mi 5 9 + mi 8 x then mi 5 9 + mi 8 x else mi 5 10) := by
  have ew : p_wrapped n (mi 4 1 + 1) = nI ((h + 1) % n) := by
    unfold p_wrapped
    rw [e1, nI_1]
    by_cases c : nI n ≤ nI (h + 1)
    · have := zn_le (by omega) (by omega) c
      rw [if_pos c, pk_sub this, show h + 1 = n by omega, Nat.mod_self, Nat.sub_self]
    · have := zn_lt (by omega) c
      rw [if_neg c, Nat.mod_eq_of_lt this]
  have ed : p_drop n mi = zw_up (zw_up mi 4 1 (nI ((h + 1) % n))) 4 2 (nI q) := by
    unfold p_drop p_drop1
    rw [if_neg (by rw [e2]; exact nI_nle (by omega) (by omega)), ew, zw_up_ne2 _ _ _ (by decide), e2, nI_pred]
  unfold p_take1 p_take2 p_take3 p_take4
  rw [e3, ed, nI_clamp (by omega), nI_clamp (by omega)]
  simp [zw_up]
theorem q_take_is {q x v : Nat} (hq : q < 16) (hx : x < 16) (hv : v < 16) (e2 : qi 32 23 = nI (q + 1)) (e3 : qi 50 0 = nI x) :
    q_take (nI v) qi = zw_up (zw_up (zw_up (zw_up (fun a b => if a = 50 ∧ 0 ≤ b ∧ b < q then qi 50 (b + 1) else zw_up qi 32 23 (nI q) a b) 49 v (nI x)) 52 x (qi 52 x + 1)) 32 24 (qi 32 24 + qi 34 x)) 32 34 (if qi 32 34 < qi 32 24 + qi 34 x then qi 32 24 + qi 34 x else qi 32 34) := by
  unfold q_take q_take1 q_take2 q_take3 q_take4
  rw [show (0 : Int32).toNatClampNeg = 0 from rfl, e2, e3, nI_pred, show (0 : Int32) = nI 0 from rfl, q_shift_is hq 17 0 _ (zw_up_self _ _ _ _) (by omega) (by omega), nI_clamp (by omega), nI_clamp (by omega)]
  have e : ∀ (m : zw_I) (u v : Int32), (if u ≤ v then zw_up m 32 34 v else zw_up m 32 34 u) = zw_up m 32 34 (if v < u then u else v) := fun m u v => by
    rw [← zr_max]
    split <;> rfl
  rw [e]
  simp [zw_up]
end ZR
