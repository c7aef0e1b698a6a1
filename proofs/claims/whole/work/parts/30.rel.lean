/-! CLASS AND REFERENCE: what is alike in both. The class's cells are read in (mi, ml), the reference's in (qi, ql). -/
def zj_A (n : Nat) (mi : zw_I) (ml : zw_L) (qi : zw_I) (ql : zw_L) : Prop := (1 ≤ n ∧ n ≤ 16) ∧ (mi 1 0 = nI n ∧ qi 32 1 = nI n) ∧ (∃ r : Nat, 1 ≤ r ∧ r ≤ 1000 ∧ mi 1 1 = nI r ∧ qi 32 2 = nI r) ∧ (qi 32 16 = mi 1 7 ∧ (mi 1 7 = -1 ∨ vp_in (mi 1 7) n)) ∧ (∀ i : Nat, i < n → ∃ t : Nat, 1 ≤ t ∧ t ≤ 20 ∧ mi 7 i = nI t ∧ qi 33 i = nI t) ∧ (∀ i : Nat, i < n → ∃ w : Nat, w ≤ 1000 ∧ mi 8 i = nI w ∧ qi 34 i = nI w) ∧ ∀ i : Nat, i < n → ql 35 i = ml 9 i
def zj_N (n : Nat) (mi qi : zw_I) : Prop := (∀ i : Nat, i < n → ∃ c : Nat, c ≤ 6 ∧ mi 10 i = nI c ∧ qi 36 i = nI c) ∧ (∀ i k : Nat, i < n → k < 6 → qi 37 (6 * i + k) = mi (64 + i) k ∧ qi 38 (6 * i + k) = mi (80 + i) k ∧ qi 39 (6 * i + k) = mi (96 + i) k ∧ vp_in (mi (80 + i) k) n ∧ vp_in (mi (96 + i) k) 21) ∧ (∀ i : Nat, i < 16 → ∃ c : Nat, c ≤ 6 ∧ qi 36 i = nI c) ∧ ∀ k : Nat, k < 96 → vp_in (qi 38 k) 16 ∧ vp_in (qi 39 k) 21
def zj_F (mi qi : zw_I) : Prop := (∃ w : Nat, w ≤ 8 ∧ mi 3 5 = nI w ∧ qi 32 15 = nI w) ∧ ∀ k : Nat, k < 8 → qi 40 k = mi 14 k ∧ qi 41 k = mi 15 k ∧ qi 42 k = mi 16 k ∧ qi 43 k = mi 17 k
/-- what is told before a run -/
def zj_S (n : Nat) (mi : zw_I) (ml : zw_L) (qi : zw_I) (ql : zw_L) : Prop := zj_A n mi ml qi ql ∧ zj_N n mi qi ∧ zj_F mi qi
def zj_V (n : Nat) (ml ql : zw_L) : Prop := ∀ i j : Nat, i < n → j < 21 → ql 47 (21 * i + j) = ml (112 + i) j
def zj_V1 (n : Nat) (ml ql : zw_L) : Prop := ∀ i j : Nat, i < n → 1 ≤ j → j < 21 → ql 47 (21 * i + j) = ml (112 + i) j
/-- what a run leaves -/
def zj_R (n : Nat) (mi qi : zw_I) : Prop := (∃ f : Nat, f ≤ n ∧ mi 5 8 = nI f ∧ qi 32 29 = nI f ∧ ∀ k : Nat, k < f → qi 51 k = mi 27 k) ∧ (∀ i : Nat, i < n → qi 52 i = mi 25 i) ∧ (∀ i j : Nat, i < n → j < n → qi 53 (16 * i + j) = mi (128 + i) j) ∧ (qi 32 30 = mi 5 11 ∧ qi 32 31 = mi 5 12 ∧ qi 32 32 = mi 5 13 ∧ qi 32 33 = mi 5 14 ∧ qi 32 34 = mi 5 10) ∧ (∀ k : Nat, k < 8 → qi 44 k = mi 18 k) ∧ ∀ k : Nat, k < 16 → vp_in (qi 50 k) 16
def zj_O (n : Nat) (mi : zw_I) (ml : zw_L) (qi : zw_I) (ql : zw_L) : Prop := ∀ i : Nat, i < n → qi 45 i = mi 20 i ∧ (mi 20 i = 0 ∨ mi 20 i = 1) ∧ (¬ mi 20 i = 0 → ql 46 i = ml 21 i)
def zj (n : Nat) (mi : zw_I) (ml : zw_L) (qi : zw_I) (ql : zw_L) : Prop := zj_S n mi ml qi ql ∧ zj_V1 n ml ql ∧ zj_R n mi qi ∧ zj_O n mi ml qi ql ∧ qi 32 35 = mi 6 2 ∧ zi_L n mi ∧ zi_C n mi
/-- the cells that the plan stands in -/
def zx_st (a b : Nat) : Prop := a = 1 ∨ a = 3 ∨ (7 ≤ a ∧ a ≤ 17) ∨ (64 ≤ a ∧ a < 112)
def zq_st (a b : Nat) : Prop := (32 < a ∧ a < 44) ∨ (a = 32 ∧ (b = 1 ∨ b = 2 ∨ b = 15 ∨ b = 16))
theorem zj_S.same {n : Nat} {mi mi' qi qi' : zw_I} {ml ml' ql ql' : zw_L} (h : zj_S n mi ml qi ql) (h1 : ∀ a b, zx_st a b → mi' a b = mi a b) (h2 : ∀ b, ml' 9 b = ml 9 b) (h3 : ∀ a b, zq_st a b → qi' a b = qi a b) (h4 : ∀ b, ql' 35 b = ql 35 b) : zj_S n mi' ml' qi' ql' := by
  obtain ⟨⟨⟨n1, n2⟩, ⟨b1, b2⟩, b3, b4, b5, b6, b7⟩, ⟨c1, c2, c3, c4⟩, d1, d2⟩ := h
  have x : ∀ a b, zx_st a b → mi' a b = mi a b := h1
  refine ⟨⟨⟨n1, n2⟩, ⟨?_, ?_⟩, ?_, ⟨?_, ?_⟩, fun i hi => ?_, fun i hi => ?_, fun i hi => ?_⟩, ⟨fun i hi => ?_, fun i k hi hk => ?_, fun i hi => ?_, fun k hk => ?_⟩, ?_, fun k hk => ?_⟩
  · rw [h1 1 0 (by unfold zx_st; omega)]; exact b1
  · rw [h3 32 1 (by unfold zq_st; omega)]; exact b2
  · rw [h1 1 1 (by unfold zx_st; omega), h3 32 2 (by unfold zq_st; omega)]; exact b3
  · rw [h1 1 7 (by unfold zx_st; omega), h3 32 16 (by unfold zq_st; omega)]; exact b4.1
  · rw [h1 1 7 (by unfold zx_st; omega)]; exact b4.2
  · rw [h1 7 i (by unfold zx_st; omega), h3 33 i (by unfold zq_st; omega)]; exact b5 i hi
  · rw [h1 8 i (by unfold zx_st; omega), h3 34 i (by unfold zq_st; omega)]; exact b6 i hi
  · rw [h2, h4]; exact b7 i hi
  · rw [h1 10 i (by unfold zx_st; omega), h3 36 i (by unfold zq_st; omega)]; exact c1 i hi
  · rw [h1 (64 + i) k (by unfold zx_st; omega), h1 (80 + i) k (by unfold zx_st; omega), h1 (96 + i) k (by unfold zx_st; omega), h3 37 _ (by unfold zq_st; omega), h3 38 _ (by unfold zq_st; omega), h3 39 _ (by unfold zq_st; omega)]; exact c2 i k hi hk
  · rw [h3 36 i (by unfold zq_st; omega)]; exact c3 i hi
  · rw [h3 38 k (by unfold zq_st; omega), h3 39 k (by unfold zq_st; omega)]; exact c4 k hk
  · rw [h1 3 5 (by unfold zx_st; omega), h3 32 15 (by unfold zq_st; omega)]; exact d1
  · rw [h1 14 k (by unfold zx_st; omega), h1 15 k (by unfold zx_st; omega), h1 16 k (by unfold zx_st; omega), h1 17 k (by unfold zx_st; omega), h3 40 k (by unfold zq_st; omega), h3 41 k (by unfold zq_st; omega), h3 42 k (by unfold zq_st; omega), h3 43 k (by unfold zq_st; omega)]; exact d2 k hk
/-- whether a worker has a share: how many do, of the first w -/
def zr_cnt (g : Nat → Int32) : Nat → Nat
  | 0 => 0
  | w + 1 => zr_cnt g w + (if g w = -1 ∨ g w = -2 then 0 else 1)
def zr_live (g : Nat → Int32) (w : Nat) : List Nat := (List.range w).filter (fun v => decide (¬ g v = -2))
def zr_W (n w : Nat) (mi qi : zw_I) : Prop := ∃ (h f : Nat) (Q : List Nat), h < n ∧ mi 4 1 = nI h ∧ mi 4 2 = nI Q.length ∧ qi 32 23 = nI Q.length ∧ (∀ (k : Nat) (hk : k < Q.length), mi 22 ((h + k) % n) = nI Q[k] ∧ qi 50 k = nI Q[k] ∧ Q[k] < n) ∧ Q.Nodup ∧ (∀ x ∈ Q, ∀ v : Nat, v < w → ¬ qi 49 v = nI x) ∧ (∀ x ∈ Q, ¬ mi 23 x = mi 7 x) ∧ mi 5 8 = nI f ∧ Q.length + zr_cnt (qi 49) w + f = n
def zr_L (w : Nat) (mi qi : zw_I) : Prop := mi 6 2 = nI (zr_live (qi 49) w).length ∧ qi 32 25 = nI (zr_live (qi 49) w).length ∧ ∀ (k : Nat) (hk : k < (zr_live (qi 49) w).length), mi 28 k = nI (zr_live (qi 49) w)[k]
def zr_H (n w : Nat) (mi qi : zw_I) : Prop := (∀ v : Nat, v < w → qi 49 v = -2 ∨ (mi 29 v = qi 49 v ∧ (qi 49 v = -1 ∨ (vp_in (qi 49 v) n ∧ ¬ mi 23 (qi 49 v).toNatClampNeg = mi 7 (qi 49 v).toNatClampNeg)))) ∧ ∀ v u : Nat, v < w → u < w → v ≠ u → qi 49 v = qi 49 u → qi 49 v = -1 ∨ qi 49 v = -2
def zr_D (n : Nat) (mi qi : zw_I) : Prop := ∀ i : Nat, i < n → ∃ d t : Nat, d ≤ t ∧ t ≤ 20 ∧ mi 23 i = nI d ∧ qi 48 i = nI d ∧ mi 7 i = nI t
def zr_I (n : Nat) (mi : zw_I) : Prop := (∀ i : Nat, i < n → vp_in (mi 22 i) n) ∧ (∀ k : Nat, k < 16 → vp_in (mi 28 k) 16) ∧ ∀ v : Nat, v < 16 → mi 29 v = -1 ∨ vp_in (mi 29 v) n
/-- a run of w workers, in both -/
def zr (n w : Nat) (mi : zw_I) (ml : zw_L) (qi : zw_I) (ql : zw_L) : Prop := w ≤ 16 ∧ zj_S n mi ml qi ql ∧ zj_V n ml ql ∧ zj_R n mi qi ∧ zr_W n w mi qi ∧ zr_L w mi qi ∧ zr_H n w mi qi ∧ zr_D n mi qi ∧ qi 32 24 = mi 5 9 ∧ zr_I n mi
-- small facts
theorem zv_of {x : Int32} {n : Nat} (h : vp_in x n) (hn : n ≤ 1000) : ∃ j : Nat, j < n ∧ x = nI j ∧ x.toNatClampNeg = j := by
  obtain ⟨j, hj, e⟩ := vp_in_of h (by omega)
  exact ⟨j, hj, e, by rw [e]; exact nI_clamp (by omega)⟩
theorem nI_m1 {j : Nat} (h : j < 1000) : ¬ nI j = -1 := fun e => by
  have h9 := congrArg Int32.toInt e
  rw [nI_toInt (by omega)] at h9
  have : (-1 : Int32).toInt = -1 := rfl
  omega
theorem nI_m2 {j : Nat} (h : j < 1000) : ¬ nI j = -2 := fun e => by
  have h9 := congrArg Int32.toInt e
  rw [nI_toInt (by omega)] at h9
  have : (-2 : Int32).toInt = -2 := rfl
  omega
theorem nI_inj {a b : Nat} (ha : a < 100000) (hb : b < 100000) (h : nI a = nI b) : a = b := (nI_eq (by omega) (by omega)).mp h
theorem zr_cnt_same {g g' : Nat → Int32} : ∀ {w : Nat}, (∀ v, v < w → g' v = g v) → zr_cnt g' w = zr_cnt g w
  | 0, _ => rfl
  | w + 1, h => by
    rw [zr_cnt, zr_cnt, zr_cnt_same (w := w) (fun v hv => h v (by omega)), h w (by omega)]
/-- one more has a share -/
theorem zr_cnt_up {g g' : Nat → Int32} {v0 : Nat} : ∀ {w : Nat}, v0 < w → (∀ v, v < w → v ≠ v0 → g' v = g v) → (g v0 = -1 ∨ g v0 = -2) → ¬ (g' v0 = -1 ∨ g' v0 = -2) → zr_cnt g' w = zr_cnt g w + 1
  | 0, h, _, _, _ => by omega
  | w + 1, h, hs, h1, h2 => by
    rw [zr_cnt, zr_cnt]
    by_cases e : v0 = w
    · subst e
      rw [zr_cnt_same (w := v0) (g' := g') (g := g) (fun v hv => hs v (by omega) (by omega)), if_pos h1, if_neg h2]
    · rw [zr_cnt_up (w := w) (by omega) (fun v hv => hs v (by omega)) h1 h2, hs w (by omega) (fun e9 => e e9.symm)]
      omega
theorem zr_cnt_pos {g : Nat → Int32} {v0 : Nat} : ∀ {w : Nat}, v0 < w → ¬ (g v0 = -1 ∨ g v0 = -2) → 1 ≤ zr_cnt g w
  | 0, h, _ => by omega
  | w + 1, h, h1 => by
    rw [zr_cnt]
    by_cases e : v0 = w
    · subst e
      rw [if_neg h1]
      omega
    · have := zr_cnt_pos (g := g) (w := w) (by omega) h1
      omega
theorem zr_live_mem {g : Nat → Int32} {w v : Nat} : v ∈ zr_live g w ↔ v < w ∧ ¬ g v = -2 := by
  unfold zr_live
  rw [List.mem_filter, List.mem_range, decide_eq_true_iff]
theorem zr_live_len {g : Nat → Int32} {w : Nat} : (zr_live g w).length ≤ w := by
  unfold zr_live
  have := List.length_filter_le (fun v => decide (¬ g v = -2)) (List.range w)
  rw [List.length_range] at this
  exact this
theorem zr_live_same {g g' : Nat → Int32} {w : Nat} (h : ∀ v, v < w → (g' v = -2 ↔ g v = -2)) : zr_live g' w = zr_live g w := by
  unfold zr_live
  refine List.filter_congr fun v hv => ?_
  rw [decide_eq_decide, h v (List.mem_range.mp hv)]
theorem zr_live_die {g g' : Nat → Int32} {w v0 : Nat} (hv : g' v0 = -2) (h : ∀ v, v < w → v ≠ v0 → g' v = g v) : zr_live g' w = (zr_live g w).filter (fun v => decide (¬ v = v0)) := by
  unfold zr_live
  rw [List.filter_filter]
  refine List.filter_congr fun v hm => ?_
  by_cases e : v = v0
  · subst e
    simp [hv]
  · rw [h v (List.mem_range.mp hm) e]
    simp [e]
