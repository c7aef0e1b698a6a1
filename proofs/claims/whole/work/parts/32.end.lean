/-! whose turn it is; when a run ends -/
theorem zr_u64 (u : UInt64) : u.toInt64 = lN u.toNat := by
  apply Int64.toBitVec_inj.mp
  apply BitVec.eq_of_toNat_eq
  show u.toBitVec.toNat = (BitVec.ofNat 64 u.toNat).toNat
  rw [BitVec.toNat_ofNat]
  have : u.toBitVec.toNat < 2 ^ 64 := u.toBitVec.isLt
  rw [show u.toNat = u.toBitVec.toNat from rfl, Nat.mod_eq_of_lt this]
theorem zr_place {c : Nat} (h0 : 0 < c) (hc : c ≤ 16) (x : Int64) : ∃ j : Nat, j < c ∧ ((x.toUInt64 >>> ((33 : Int32).toInt64.toUInt64 &&& Int64.toUInt64 63)).toInt64 - (x.toUInt64 >>> ((33 : Int32).toInt64.toUInt64 &&& Int64.toUInt64 63)).toInt64 / (nI c).toInt64 * (nI c).toInt64).toInt32 = nI j := by
  have hs : ((33 : Int32).toInt64.toUInt64 &&& Int64.toUInt64 63) = 33 := by decide
  rw [hs, zr_u64, nI_l (by omega)]
  have hu : (x.toUInt64 >>> 33).toNat < 2 ^ 31 := by
    rw [UInt64.toNat_shiftRight, show ((33 : UInt64).toNat % 64) = 33 from rfl, Nat.shiftRight_eq_div_pow]
    have := x.toUInt64.toNat_lt
    omega
  rw [pk_lRem (by omega) h0 (by omega), lN_i]
  exact ⟨_, Nat.mod_lt _ h0, rfl⟩
theorem zr_find {qi : zw_I} : ∀ (m v f pl : Nat), m ≤ f → v + m ≤ 16 → ∀ hp : pl < ((List.range' v m).filter (fun v => decide (¬ qi 49 v = -2))).length, q_find qi f (nI pl) (nI v) = nI (((List.range' v m).filter (fun v => decide (¬ qi 49 v = -2)))[pl]) ∧ zq_F qi f (nI pl) v
  | 0, v, f, pl, _, _, hp => by simp at hp
  | m + 1, v, 0, pl, hf, _, hp => by omega
  | m + 1, v, f + 1, pl, hf, hv, hp => by
    have ev : (nI v).toNatClampNeg = v := nI_clamp (by omega)
    have hpl : pl < 17 := by
      have h1 := List.length_filter_le (fun v => decide (¬ qi 49 v = -2)) (List.range' v (m + 1))
      rw [List.length_range'] at h1
      omega
    rw [q_find, ev]
    by_cases c : qi 49 v = -2
    · have e : (List.range' v (m + 1)).filter (fun v => decide (¬ qi 49 v = -2)) = (List.range' (v + 1) m).filter (fun v => decide (¬ qi 49 v = -2)) := by
        rw [List.range'_succ, List.filter_cons_of_neg (by simp [c])]
      rw [if_pos c, Int32.sub_zero, nI_1]
      have hp' := hp
      rw [e] at hp'
      obtain ⟨i1, i2⟩ := zr_find (qi := qi) m (v + 1) f pl (by omega) (by omega) hp'
      refine ⟨?_, by omega, fun _ => by rw [Int32.sub_zero]; exact i2, fun h => absurd c h⟩
      rw [i1]
      congr 1
      simp only [e]
    · have e : (List.range' v (m + 1)).filter (fun v => decide (¬ qi 49 v = -2)) = v :: (List.range' (v + 1) m).filter (fun v => decide (¬ qi 49 v = -2)) := by
        rw [List.range'_succ, List.filter_cons_of_pos (by simp [c])]
      rw [if_neg c]
      cases pl with
      | zero =>
        rw [if_pos (by decide)]
        refine ⟨?_, by omega, fun h => absurd h c, fun _ h => absurd (by decide) h⟩
        congr 1
        simp only [e, List.getElem_cons_zero]
      | succ pl =>
        rw [if_neg (nI_nle (by omega) (by omega)), nI_pred, nI_1]
        have hp' := hp
        rw [e] at hp'
        obtain ⟨i1, i2⟩ := zr_find (qi := qi) m (v + 1) f pl (by omega) (by omega) (by simpa using hp')
        refine ⟨?_, by omega, fun h => absurd h c, fun _ _ => by rw [nI_pred]; exact i2⟩
        rw [i1]
        congr 1
        simp only [e, List.getElem_cons_succ]
section ZR
variable {n w : Nat} {mi qi : zw_I} {ml ql : zw_L}
/-- whose turn: the worker at the place among those that live, in both -/
theorem zr_turn (h : zr n w mi ml qi ql) (x : Int64) : (mi 6 2 = 0 ∧ qi 32 25 = 0 ∧ p_turn mi x = -1) ∨ ∃ v c j : Nat, 0 < c ∧ c ≤ 16 ∧ j < c ∧ mi 6 2 = nI c ∧ qi 32 25 = nI c ∧ p_place mi x = nI j ∧ v < w ∧ ¬ qi 49 v = -2 ∧ p_turn mi x = nI v ∧ q_who qi x = nI v ∧ zq_F qi 17 (q_place qi x) 0 := by
  obtain ⟨hw, -, -, -, -, ⟨l1, l2, l3⟩, -, -, -, -⟩ := h
  have hlen := zr_live_len (g := qi 49) (w := w)
  rcases Nat.eq_zero_or_pos (zr_live (qi 49) w).length with h0 | h0
  · left
    rw [h0] at l1 l2
    refine ⟨l1, l2, ?_⟩
    unfold p_turn
    rw [l1, if_pos (by decide)]
  · right
    obtain ⟨j, hj, ej⟩ := zr_place h0 (by omega) x
    have ep : p_place mi x = nI j := by unfold p_place; rw [l1]; exact ej
    have eq : q_place qi x = nI j := by unfold q_place; rw [l2]; exact ej
    have hm := List.getElem_mem hj
    obtain ⟨v1, v2⟩ := zr_live_mem.mp hm
    have hr : zr_live (qi 49) w = (List.range' 0 w).filter (fun v => decide (¬ qi 49 v = -2)) := by unfold zr_live; rw [List.range_eq_range']
    obtain ⟨f1, f2⟩ := zr_find (qi := qi) w 0 17 j (by omega) (by omega) (by rw [← hr]; exact hj)
    refine ⟨(zr_live (qi 49) w)[j], _, j, h0, by omega, hj, l1, l2, ep, v1, v2, ?_, ?_, by rw [eq]; exact f2⟩
    · unfold p_turn
      rw [l1, if_neg (nI_nle h0 (by omega)), ep, nI_clamp (by omega)]
      exact l3 j hj
    · unfold q_who
      rw [eq, show (0 : Int32) = nI 0 from rfl, f1]
      congr 1
      simp only [hr]
/-- a worker that can't go on -/
def zr_blk (mi qi : zw_I) (v : Nat) : Prop := (qi 49 v = -1 ∧ p_canTake mi = 0) ∨ (¬ qi 49 v = -1 ∧ ¬ q_waits qi (qi 49 v) 7 0 < 0)
theorem nI_nn {j : Nat} (h : j < 1000) : ¬ nI j < 0 := nI_pos (by omega)
theorem zr_stuckP (h : zr n w mi ml qi ql) : ∀ (f k : Nat), k ≤ (zr_live (qi 49) w).length → (zr_live (qi 49) w).length < k + f → (p_stuck mi f (nI k) = 1 ∧ ∀ (j : Nat) (hj : j < (zr_live (qi 49) w).length), k ≤ j → zr_blk mi qi (zr_live (qi 49) w)[j]) ∨ (p_stuck mi f (nI k) = 0 ∧ ∃ (j : Nat) (hj : j < (zr_live (qi 49) w).length), ¬ zr_blk mi qi (zr_live (qi 49) w)[j])
  | 0, k, h1, h2 => by omega
  | f + 1, k, h1, h2 => by
    have hlen := zr_live_len (g := qi 49) (w := w)
    have hw := h.1
    have hn := zr_n h
    obtain ⟨l1, l2, l3⟩ := h.2.2.2.2.2.1
    rw [p_stuck, l1]
    by_cases c : nI (zr_live (qi 49) w).length ≤ nI k
    · rw [if_pos c]
      have := zn_le (by omega) (by omega) c
      exact Or.inl ⟨rfl, fun j hj hk => by omega⟩
    · rw [if_neg c]
      have hk : k < (zr_live (qi 49) w).length := zn_lt (by omega) c
      obtain ⟨v1, v2⟩ := zr_live_mem.mp (List.getElem_mem hk)
      have ih := zr_stuckP h f (k + 1) (by omega) (by omega)
      have e1 : mi 29 (zr_live (qi 49) w)[k] = qi 49 (zr_live (qi 49) w)[k] := by
        rcases h.2.2.2.2.2.2.1.1 _ v1 with e | ⟨e, -⟩
        · exact absurd e v2
        · exact e
      rw [nI_clamp (by omega), l3 k hk, nI_clamp (by omega), e1, nI_1]
      have step : zr_blk mi qi (zr_live (qi 49) w)[k] → ((p_stuck mi f (nI (k + 1)) = 1 ∧ ∀ (j : Nat) (hj : j < (zr_live (qi 49) w).length), k ≤ j → zr_blk mi qi (zr_live (qi 49) w)[j]) ∨ (p_stuck mi f (nI (k + 1)) = 0 ∧ ∃ (j : Nat) (hj : j < (zr_live (qi 49) w).length), ¬ zr_blk mi qi (zr_live (qi 49) w)[j])) := fun hb => by
        rcases ih with ⟨i1, i2⟩ | i
        · refine Or.inl ⟨i1, fun j hj hkj => ?_⟩
          by_cases e : j = k
          · subst e; exact hb
          · exact i2 j hj (by omega)
        · exact Or.inr i
      by_cases c1 : qi 49 (zr_live (qi 49) w)[k] = -1
      · rw [if_pos c1]
        by_cases c2 : p_canTake mi = 0
        · rw [if_pos c2]; exact step (Or.inl ⟨c1, c2⟩)
        · rw [if_neg c2]
          exact Or.inr ⟨rfl, k, hk, fun hb => hb.elim (fun q => c2 q.2) (fun q => q.1 c1)⟩
      · rw [if_neg c1]
        have hin : vp_in (qi 49 (zr_live (qi 49) w)[k]) n := by
          rcases h.2.2.2.2.2.2.1.1 _ v1 with e | ⟨-, e | e⟩
          · exact absurd e v2
          · exact absurd e c1
          · exact e.1
        obtain ⟨x, hx, ex, -⟩ := zv_of hin (by omega)
        rw [ex]
        rcases zr_wait h hx with ⟨q1, q2⟩ | ⟨j, o, hj, ho, q1, q2, -⟩
        · rw [if_pos q1]
          exact Or.inr ⟨rfl, k, hk, fun hb => hb.elim (fun q => c1 q.1) (fun q => q.2 (by rw [ex, q2]; decide))⟩
        · rw [if_neg (by rw [q2]; exact nI_m1 (by omega))]
          exact step (Or.inr ⟨c1, by rw [ex, q1]; exact nI_nn (by omega)⟩)
theorem q_stuck0 {qi : zw_I} {wk : Int32} : ∀ (f : Nat) (k : Int32), q_stuck qi wk f 0 k = 0
  | 0, _ => rfl
  | f + 1, k => by
    rw [q_stuck]
    split
    · rfl
    · rw [if_pos rfl]
theorem zr_stuckQ (h : zr n w mi ml qi ql) : ∀ (f k : Nat), k ≤ w → w < k + f → (q_stuck qi (nI w) f 1 (nI k) = 1 ∧ ∀ v : Nat, v < w → k ≤ v → qi 49 v = -2 ∨ zr_blk mi qi v) ∨ (q_stuck qi (nI w) f 1 (nI k) = 0 ∧ ∃ v : Nat, v < w ∧ ¬ qi 49 v = -2 ∧ ¬ zr_blk mi qi v)
  | 0, k, h1, h2 => by omega
  | f + 1, k, h1, h2 => by
    have hw := h.1
    have hn := zr_n h
    rw [q_stuck]
    by_cases c : nI w ≤ nI k
    · rw [if_pos c]
      have := zn_le (by omega) (by omega) c
      exact Or.inl ⟨rfl, fun v hv hk => by omega⟩
    · rw [if_neg c, if_neg (by decide)]
      have hk : k < w := zn_lt (by omega) c
      have ih := zr_stuckQ h f (k + 1) (by omega) (by omega)
      rw [nI_clamp (by omega), nI_1, zr_can h]
      have step : (qi 49 k = -2 ∨ zr_blk mi qi k) → ((q_stuck qi (nI w) f 1 (nI (k + 1)) = 1 ∧ ∀ v : Nat, v < w → k ≤ v → qi 49 v = -2 ∨ zr_blk mi qi v) ∨ (q_stuck qi (nI w) f 1 (nI (k + 1)) = 0 ∧ ∃ v : Nat, v < w ∧ ¬ qi 49 v = -2 ∧ ¬ zr_blk mi qi v)) := fun hb => by
        rcases ih with ⟨i1, i2⟩ | i
        · refine Or.inl ⟨i1, fun v hv hkv => ?_⟩
          by_cases e : v = k
          · subst e; exact hb
          · exact i2 v hv (by omega)
        · exact Or.inr i
      by_cases c0 : qi 49 k = -2
      · rw [if_pos c0]; exact step (Or.inl c0)
      · rw [if_neg c0]
        by_cases c1 : qi 49 k = -1
        · rw [if_pos c1]
          by_cases c2 : p_canTake mi = 0
          · rw [if_pos c2]; exact step (Or.inr (Or.inl ⟨c1, c2⟩))
          · rw [if_neg c2, q_stuck0]
            exact Or.inr ⟨rfl, k, hk, c0, fun hb => hb.elim (fun q => c2 q.2) (fun q => q.1 c1)⟩
        · rw [if_neg c1]
          by_cases c2 : q_waits qi (qi 49 k) 7 0 < 0
          · rw [if_pos c2, q_stuck0]
            exact Or.inr ⟨rfl, k, hk, c0, fun hb => hb.elim (fun q => c1 q.1) (fun q => q.2 c2)⟩
          · rw [if_neg c2]; exact step (Or.inr (Or.inr ⟨c1, c2⟩))
theorem zr_stuck (h : zr n w mi ml qi ql) : q_stuck qi (nI w) 17 1 0 = p_stuck mi 17 0 := by
  have hlen := zr_live_len (g := qi 49) (w := w)
  have hw := h.1
  rcases zr_stuckP h 17 0 (by omega) (by omega) with ⟨a1, a2⟩ | ⟨a1, j, hj, a2⟩
  · rcases zr_stuckQ h 17 0 (by omega) (by omega) with ⟨b1, b2⟩ | ⟨b1, v, hv, hl, b2⟩
    · exact b1.trans a1.symm
    · exfalso
      obtain ⟨j, hj, e⟩ := List.getElem_of_mem (zr_live_mem.mpr ⟨hv, hl⟩)
      have := a2 j hj (by omega)
      rw [e] at this
      exact b2 this
  · rcases zr_stuckQ h 17 0 (by omega) (by omega) with ⟨b1, b2⟩ | ⟨b1, -⟩
    · exfalso
      obtain ⟨v1, v2⟩ := zr_live_mem.mp (List.getElem_mem hj)
      exact (b2 _ v1 (by omega)).elim v2 a2
    · exact b1.trans a1.symm
theorem zr_fin (h : zr n w mi ml qi ql) {x : Nat} (hx : x < n) : q_isFin qi (nI x) = p_isFin mi (nI x) := by
  have hn := zr_n h
  obtain ⟨d, t, h1, h2, e1, e2, e3⟩ := h.2.2.2.2.2.2.2.1 x hx
  obtain ⟨t', -, -, e4, e5⟩ := h.2.1.1.2.2.2.2.1 x hx
  unfold q_isFin p_isFin
  rw [nI_clamp (by omega), e1, e2, e3, e5, ← e4, e3]
  by_cases c : d < t
  · rw [if_pos (nI_lt c (by omega)), if_neg (fun e => by have := nI_inj (by omega) (by omega) e; omega)]
  · rw [if_neg (nI_nlt (by omega) (by omega)), if_pos (by rw [show d = t by omega])]
/-- the end, in both -/
theorem zr_end (h : zr n w mi ml qi ql) : q_end qi (nI w) = if p_end mi = 2 then (if qi 32 30 = 20000 then -3 else 2) else p_end mi := by
  have hn := zr_n h
  have hl := h.2.2.2.2.2.1
  obtain ⟨f, hf, f1, f2, -⟩ := h.2.2.2.1.1
  obtain ⟨a1, a2⟩ := h.2.1.1.2.1
  obtain ⟨s1, s2⟩ := h.2.1.1.2.2.2.1
  have e2 : q_end2 qi (nI w) = if (if mi 6 2 = 0 then (-1 : Int32) else if p_stuck mi 17 0 = 0 then 2 else -2) = 2 then (if qi 32 30 = 20000 then -3 else 2) else (if mi 6 2 = 0 then (-1 : Int32) else if p_stuck mi 17 0 = 0 then 2 else -2) := by
    unfold q_end2
    rw [zr_stuck h, hl.1, hl.2.1]
    by_cases c1 : nI (zr_live (qi 49) w).length = 0
    · rw [if_pos c1, if_pos c1, if_neg (by decide)]
    · rw [if_neg c1, if_neg c1]
      by_cases c2 : p_stuck mi 17 0 = 0
      · rw [if_pos c2, if_pos c2, if_pos rfl]
      · rw [if_neg c2, if_neg c2, if_neg (by decide)]
  unfold q_end p_end
  rw [f1, f2, a1, a2, s1, e2]
  by_cases c : f < n
  · rw [if_neg (fun e => by have := nI_inj (by omega) (by omega) e; omega), if_pos (nI_lt c (by omega))]
    by_cases c1 : mi 1 7 = -1
    · rw [if_pos c1, if_pos c1]
    · rw [if_neg c1, if_neg c1]
      obtain ⟨x, hx, ex, -⟩ := zv_of (s2.elim (fun e => absurd e c1) id) (by omega)
      rw [ex, zr_fin h hx]
      by_cases c2 : p_isFin mi (nI x) = 0
      · rw [if_pos c2, if_pos c2]
      · rw [if_neg c2, if_neg c2, if_neg (by decide)]
  · rw [if_pos (by rw [show f = n by omega]), if_neg (nI_nlt (by omega) (by omega)), if_neg (by decide)]
end ZR
