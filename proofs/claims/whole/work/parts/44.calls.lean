/-! THE CALLS: each one answers alike in class and reference, and leaves both alike -/
theorem zj_A.same {n : Nat} {mi mi' qi qi' : zw_I} {ml ml' ql ql' : zw_L} (h : zj_A n mi ml qi ql) (hx : ∀ a b, a = 1 ∨ a = 7 ∨ a = 8 → mi' a b = mi a b) (hxl : ∀ b, ml' 9 b = ml 9 b) (hq : ∀ a b, (a = 32 ∧ (b = 1 ∨ b = 2 ∨ b = 16)) ∨ a = 33 ∨ a = 34 → qi' a b = qi a b) (hql : ∀ b, ql' 35 b = ql 35 b) : zj_A n mi' ml' qi' ql' := by
  obtain ⟨n1, ⟨b1, b2⟩, b3, b4, b5, b6, b7⟩ := h
  refine ⟨n1, ⟨?_, ?_⟩, ?_, ⟨?_, ?_⟩, fun i hi => ?_, fun i hi => ?_, fun i hi => ?_⟩
  · rw [hx 1 0 (by omega)]; exact b1
  · rw [hq 32 1 (by omega)]; exact b2
  · rw [hx 1 1 (by omega), hq 32 2 (by omega)]; exact b3
  · rw [hx 1 7 (by omega), hq 32 16 (by omega)]; exact b4.1
  · rw [hx 1 7 (by omega)]; exact b4.2
  · rw [hx 7 i (by omega), hq 33 i (by omega)]; exact b5 i hi
  · rw [hx 8 i (by omega), hq 34 i (by omega)]; exact b6 i hi
  · rw [hxl, hql]; exact b7 i hi
theorem zj_N.same {n : Nat} {mi mi' qi qi' : zw_I} (hn : n ≤ 16) (h : zj_N n mi qi) (hx : ∀ a b, a = 10 ∨ (64 ≤ a ∧ a < 112) → mi' a b = mi a b) (hq : ∀ a b, 36 ≤ a ∧ a ≤ 39 → qi' a b = qi a b) : zj_N n mi' qi' := by
  obtain ⟨c1, c2, c3, c4⟩ := h
  refine ⟨fun i hi => ?_, fun i k hi hk => ?_, fun i hi => ?_, fun k hk => ?_⟩
  · rw [hx 10 i (by omega), hq 36 i (by omega)]; exact c1 i hi
  · rw [hx (64 + i) k (by omega), hx (80 + i) k (by omega), hx (96 + i) k (by omega), hq 37 _ (by omega), hq 38 _ (by omega), hq 39 _ (by omega)]; exact c2 i k hi hk
  · rw [hq 36 i (by omega)]; exact c3 i hi
  · rw [hq 38 k (by omega), hq 39 k (by omega)]; exact c4 k hk
theorem zj_F.same {mi mi' qi qi' : zw_I} (h : zj_F mi qi) (hx : ∀ a b, a = 3 ∨ (14 ≤ a ∧ a ≤ 17) → mi' a b = mi a b) (hq : ∀ a b, (a = 32 ∧ b = 15) ∨ (40 ≤ a ∧ a ≤ 43) → qi' a b = qi a b) : zj_F mi' qi' := by
  obtain ⟨d1, d2⟩ := h
  refine ⟨?_, fun k hk => ?_⟩
  · rw [hx 3 5 (by omega), hq 32 15 (by omega)]; exact d1
  · rw [hx 14 k (by omega), hx 15 k (by omega), hx 16 k (by omega), hx 17 k (by omega), hq 40 k (by omega), hq 41 k (by omega), hq 42 k (by omega), hq 43 k (by omega)]; exact d2 k hk
theorem zJ_up {n : Nat} {mi mi' : zw_I} {ml ml' : zw_L} (h : zJ n mi ml) (hm : ∀ a b, (a ≠ 32 ∨ b ≠ 0) → mi' a b = mi a b) (hl : ∀ a b, a ≠ 30 → ml' a b = ml a b) : zJ n mi' ml' :=
  zj.same h (fun a b ha => hm a b (by omega)) (fun a b ha => hl a b (by omega)) (fun a b h1 h2 h3 => hm a b h3) (fun a b h1 h2 => hl a b (by omega))
/-- what is left alone when the plan is told anew -/
theorem zJ_T {n : Nat} {mi mi' : zw_I} {ml ml' : zw_L} (h : zJ n mi ml) (hm : ∀ a b, (4 ≤ a ∧ a ≤ 6) ∨ (18 ≤ a ∧ a ≤ 29) ∨ 128 ≤ a ∨ (a = 32 ∧ 29 ≤ b) ∨ (44 ≤ a ∧ a ≤ 53) → mi' a b = mi a b) (hl : ∀ a b, a = 21 ∨ 112 ≤ a ∨ a = 46 ∨ a = 47 → ml' a b = ml a b) : zj_T n mi' ml' mi' ml' :=
  zj_T.same h.2 (fun a b ha => hm a b (by omega)) (fun a b ha => hl a b (by omega)) (fun a b ha => hm a b (by omega)) (fun a b ha => hl a b (by omega))
theorem p_within_in {f : Nat} (x : Int32) (hf : f ≤ 1000) : (p_within x 0 (nI f - 1) = 0 ∧ ∀ j : Nat, j < f → ¬ x = nI j) ∨ ∃ j : Nat, j < f ∧ x = nI j ∧ p_within x 0 (nI f - 1) = 1 := by
  have e0 : (0 : Int32).toInt = 0 := rfl
  have e1 : (nI f - 1).toInt = (f : Int) - 1 := pk_sub_toInt (b := 1) (by omega) (by omega)
  unfold p_within
  by_cases c1 : x < 0
  · rw [if_pos c1]
    refine Or.inl ⟨rfl, fun j hj e => ?_⟩
    subst e
    exact nI_pos (by omega) c1
  · rw [if_neg c1]
    by_cases c2 : nI f - 1 < x
    · rw [if_pos c2]
      refine Or.inl ⟨rfl, fun j hj e => ?_⟩
      subst e
      have := Int32.lt_iff_toInt_lt.mp c2
      rw [e1, nI_toInt (by omega)] at this
      omega
    · rw [if_neg c2]
      have h1 : ¬ x.toInt < 0 := fun q => c1 (Int32.lt_iff_toInt_lt.mpr (by rw [e0]; exact q))
      have h2 : ¬ (nI f - 1).toInt < x.toInt := fun q => c2 (Int32.lt_iff_toInt_lt.mpr q)
      rw [e1] at h2
      refine Or.inr ⟨x.toInt.toNat, by omega, Int32.toInt_inj.mp ?_, rfl⟩
      rw [nI_toInt (by omega)]
      omega
theorem zJ_is {n : Nat} {mi qi : zw_I} (h1 : n ≤ 16) (e1 : mi 1 0 = nI n) (e2 : qi 32 1 = nI n) (x : Int32) : (p_isShare mi x = 0 ∧ q_isShare qi x = 0) ∨ ∃ j : Nat, j < n ∧ x = nI j ∧ p_isShare mi x = 1 ∧ q_isShare qi x = 1 := by
  unfold p_isShare q_isShare
  rw [e1, e2]
  rcases p_within_in (f := n) x (by omega) with ⟨c, c2⟩ | ⟨j, hj, e, c⟩
  · rcases pk_ix x (n := n) (by omega) with q | q | ⟨j, hj, e⟩
    · exact Or.inl ⟨c, if_pos q⟩
    · refine Or.inl ⟨c, ?_⟩
      rw [if_pos q]
      split <;> rfl
    · exact absurd e (c2 j hj)
  · subst e
    refine Or.inr ⟨j, hj, rfl, c, ?_⟩
    rw [if_neg (nI_pos (by omega)), if_neg (nI_ge hj (by omega))]
theorem zJ_n {n : Nat} {mi : zw_I} {ml : zw_L} (h : zJ n mi ml) : n ≤ 16 := h.1.1.1.2
theorem zJ_10 {n : Nat} {mi : zw_I} {ml : zw_L} (h : zJ n mi ml) : mi 1 0 = nI n := h.1.1.2.1.1
theorem zJ_321 {n : Nat} {mi : zw_I} {ml : zw_L} (h : zJ n mi ml) : mi 32 1 = nI n := h.1.1.2.1.2
theorem zJ_in {n : Nat} {mi : zw_I} {ml : zw_L} (h : zJ n mi ml) : ∀ x : Int32, ¬ p_isShare mi x = 0 → vp_in x n := fun x hx => by
  have hn := zJ_n h
  rcases zJ_is hn (zJ_10 h) (zJ_321 h) x with ⟨c, -⟩ | ⟨j, hj, e, -⟩
  · exact absurd c hx
  · rw [e]; exact vp_in_nI hj (by omega)
theorem zJ_in16 {n : Nat} {qi : zw_I} (hn : n ≤ 16) (e : qi 32 1 = nI n) (x : Int32) (hx : ¬ q_isShare qi x = 0) : vp_in x 16 := by
  unfold q_isShare at hx
  rw [e] at hx
  rcases pk_ix x (n := n) (by omega) with q | q | ⟨j, hj, e⟩
  · rw [if_pos q] at hx; exact absurd rfl hx
  · rw [if_pos q] at hx
    split at hx <;> exact absurd rfl hx
  · rw [e]; exact vp_in_nI (by omega) (by omega)
theorem zh_iL (mi : zw_I) (E : String) : zh_i mi (.inl E) = mi := rfl
theorem zh_lL (ml : zw_L) (E : String) : zh_l ml (.inl E) = ml := rfl
theorem zh_cL (k : String → Int32) (E : String) : zh_c k (.inl E) = k E := rfl
theorem zh_iR (mi : zw_I) (v : Option Value) (m : zw_I) (l : zw_L) : zh_i mi (.inr (v, m, l)) = m := rfl
theorem zh_lR (ml : zw_L) (v : Option Value) (m : zw_I) (l : zw_L) : zh_l ml (.inr (v, m, l)) = zw_up l 30 0 (zh_v v) := rfl
theorem zh_cR (k : String → Int32) (v : Option Value) (m : zw_I) (l : zw_L) : zh_c k (.inr (v, m, l)) = 0 := rfl
theorem zh_vI (x : Int32) : zh_v (some (.int x)) = x.toInt64 := rfl
theorem zh_vL (x : Int64) : zh_v (some (.long x)) = x := rfl
/-- a refused call -/
theorem zJ_no {n : Nat} {mi : zw_I} {ml : zw_L} (h : zJ n mi ml) {E : String} {k : Int32} (e : zh_k E = k) (hk : ¬ k = 0) {P : Prop} : zw_up mi 32 0 k 32 0 = zh_k E ∧ (zh_k E = 0 → P) ∧ zJ n (zw_up mi 32 0 k) ml :=
  ⟨by rw [zw_up_self, e], fun q => absurd (e ▸ q) hk, zJ_up h (fun a b hab => zw_up_off _ _ hab) (fun _ _ _ => rfl)⟩
/-- a call that only reads -/
theorem zJ_read {n : Nat} {mi : zw_I} {ml : zw_L} (h : zJ n mi ml) (v : Int64) : zJ n (zw_up mi 32 0 0) (zw_up ml 30 0 v) :=
  zJ_up h (fun a b hab => zw_up_off _ _ hab) (fun a b hab => zw_up_ne1 _ _ _ hab)
theorem zA_at {n : Nat} : zl_A_at n (zJ n) := by
  intro mi ml x h
  have hn := zJ_n h
  refine ⟨zJ_in h, ?_⟩
  rcases zJ_is hn (zJ_10 h) (zJ_321 h) x with ⟨c1, c2⟩ | ⟨j, hj, rfl, c1, c2⟩
  · rw [show p_at mi ml x = .inl zt_I from if_pos c1, zh_iL, zh_lL, zh_cL, show q_at mi ml x = (0, zw_up mi 32 0 1) from if_pos c2]
    exact ⟨fun q => absurd c2 q, zJ_no h zh_kI (by decide)⟩
  · have hO := h.2.2.2.1 j hj
    have d1 : ¬ p_isShare mi (nI j) = 0 := by rw [c1]; decide
    have d2 : ¬ q_isShare mi (nI j) = 0 := by rw [c2]; decide
    have ej : (nI j).toNatClampNeg = j := nI_clamp (by omega)
    by_cases c3 : mi 20 j = 0
    · rw [show p_at mi ml (nI j) = .inl zt_S by unfold p_at; rw [if_neg d1, ej, if_pos c3], zh_iL, zh_lL, zh_cL, show q_at mi ml (nI j) = (0, zw_up mi 32 0 2) by unfold q_at; rw [if_neg d2, ej, if_pos (by rw [hO.1]; exact c3)]]
      exact ⟨fun q => zJ_in16 hn (zJ_321 h) _ q, zJ_no h zh_kS (by decide)⟩
    · rw [show p_at mi ml (nI j) = .inr (some (.long (ml 21 j)), mi, ml) by unfold p_at; rw [if_neg d1, ej, if_neg c3], zh_iR, zh_lR, zh_cR, zh_vL, show q_at mi (zw_up ml 30 0 (ml 21 j)) (nI j) = (ml 46 j, zw_up mi 32 0 0) by unfold q_at; rw [if_neg d2, ej, if_neg (by rw [hO.1]; exact c3), zw_up_ne1 _ _ _ (by decide)]]
      refine ⟨fun q => zJ_in16 hn (zJ_321 h) _ q, zw_up_self mi 32 0 0, fun _ => ?_, zJ_read h _⟩
      show zw_up ml 30 0 (ml 21 j) 30 0 = ml 46 j
      rw [zw_up_self, hO.2.2 c3]
theorem zA_order {n : Nat} : zl_A_order n (zJ n) := by
  intro mi ml x h
  have hn := zJ_n h
  obtain ⟨f, r1, r2, r3, r4⟩ := h.2.2.1.1
  rcases p_within_in (f := f) x (by omega) with ⟨c, -⟩ | ⟨j, hj, rfl, c⟩
  · rw [show p_order mi ml x = .inl zt_I from if_pos (by rw [r2]; exact c), zh_iL, zh_lL, zh_cL, show q_order mi x = (0, zw_up mi 32 0 1) from if_pos (by rw [r3]; exact c), r2, r3]
    exact ⟨fun q => absurd c q, fun q => absurd c q, zJ_no h zh_kI (by decide)⟩
  · have ej : (nI j).toNatClampNeg = j := nI_clamp (by omega)
    have d : ¬ p_within (nI j) 0 (nI f - 1) = 0 := by rw [c]; decide
    rw [show p_order mi ml (nI j) = .inr (some (.int (mi 27 j)), mi, ml) by unfold p_order; rw [if_neg (by rw [r2]; exact d), ej], zh_iR, zh_lR, zh_cR, zh_vI, show q_order mi (nI j) = (mi 51 j, zw_up mi 32 0 0) by unfold q_order; rw [if_neg (by rw [r3]; exact d), ej, zw_up_ne1 _ _ _ (by decide)]]
    refine ⟨fun _ => vp_in_nI (by omega) (by omega), fun _ => vp_in_nI (by omega) (by omega), zw_up_self mi 32 0 0, fun _ => ?_, zJ_read h _⟩
    show zw_up ml 30 0 (mi 27 j).toInt64 30 0 = (mi 51 j).toInt64
    rw [zw_up_self, r4 j hj]
theorem zA_begun {n : Nat} : zl_A_begun n (zJ n) := by
  intro mi ml x h
  have hn := zJ_n h
  refine ⟨zJ_in h, ?_⟩
  rcases zJ_is hn (zJ_10 h) (zJ_321 h) x with ⟨c1, c2⟩ | ⟨j, hj, rfl, c1, c2⟩
  · rw [show p_begun mi ml x = .inl zt_I from if_pos c1, zh_iL, zh_lL, zh_cL, show q_begun mi x = (0, zw_up mi 32 0 1) from if_pos c2]
    exact ⟨fun q => absurd c2 q, zJ_no h zh_kI (by decide)⟩
  · have d1 : ¬ p_isShare mi (nI j) = 0 := by rw [c1]; decide
    have d2 : ¬ q_isShare mi (nI j) = 0 := by rw [c2]; decide
    have ej : (nI j).toNatClampNeg = j := nI_clamp (by omega)
    rw [show p_begun mi ml (nI j) = .inr (some (.int (mi 25 j)), mi, ml) by unfold p_begun; rw [if_neg d1, ej], zh_iR, zh_lR, zh_cR, zh_vI, show q_begun mi (nI j) = (mi 52 j, zw_up mi 32 0 0) by unfold q_begun; rw [if_neg d2, ej, zw_up_ne1 _ _ _ (by decide)]]
    refine ⟨fun q => zJ_in16 hn (zJ_321 h) _ q, zw_up_self mi 32 0 0, fun _ => ?_, zJ_read h _⟩
    show zw_up ml 30 0 (mi 25 j).toInt64 30 0 = (mi 52 j).toInt64
    rw [zw_up_self, h.2.2.1.2.1 j hj]
theorem zA_waited {n : Nat} : zl_A_waited n (zJ n) := by
  intro mi ml x y h
  have hn := zJ_n h
  refine ⟨zJ_in h, ?_⟩
  rcases zJ_is hn (zJ_10 h) (zJ_321 h) x with ⟨c1, c2⟩ | ⟨j, hj, rfl, c1, c2⟩
  · rw [show p_waited mi ml x y = .inl zt_I from if_pos c1, zh_iL, zh_lL, zh_cL, show q_waited mi x y = (0, zw_up mi 32 0 1) from if_pos c2]
    exact ⟨fun u q => zJ_in16 hn (zJ_321 h) u q, zJ_no h zh_kI (by decide)⟩
  · have d1 : ¬ p_isShare mi (nI j) = 0 := by rw [c1]; decide
    have d2 : ¬ q_isShare mi (nI j) = 0 := by rw [c2]; decide
    have ej : (nI j).toNatClampNeg = j := nI_clamp (by omega)
    rcases zJ_is hn (zJ_10 h) (zJ_321 h) y with ⟨c3, c4⟩ | ⟨k, hk, rfl, c3, c4⟩
    · rw [show p_waited mi ml (nI j) y = .inl zt_I by unfold p_waited; rw [if_neg d1, if_pos c3], zh_iL, zh_lL, zh_cL, show q_waited mi (nI j) y = (0, zw_up mi 32 0 1) by unfold q_waited; rw [if_neg d2, if_pos c4]]
      exact ⟨fun u q => zJ_in16 hn (zJ_321 h) u q, zJ_no h zh_kI (by decide)⟩
    · have d3 : ¬ p_isShare mi (nI k) = 0 := by rw [c3]; decide
      have d4 : ¬ q_isShare mi (nI k) = 0 := by rw [c4]; decide
      have ek : (nI k).toNatClampNeg = k := nI_clamp (by omega)
      have ejk : (16 * nI j + nI k).toNatClampNeg = 16 * j + k := by
        rw [show (16 : Int32) = nI 16 from rfl, pk_mul, nI_add]; exact nI_clamp (by omega)
      rw [show p_waited mi ml (nI j) (nI k) = .inr (some (.int (mi (128 + j) k)), mi, ml) by unfold p_waited; rw [if_neg d1, if_neg d3, ej, ek], zh_iR, zh_lR, zh_cR, zh_vI, show q_waited mi (nI j) (nI k) = (mi 53 (16 * j + k), zw_up mi 32 0 0) by unfold q_waited; rw [if_neg d2, if_neg d4, ejk, zw_up_ne1 _ _ _ (by decide)]]
      refine ⟨fun u q => zJ_in16 hn (zJ_321 h) u q, zw_up_self mi 32 0 0, fun _ => ?_, zJ_read h _⟩
      show zw_up ml 30 0 (mi (128 + j) k).toInt64 30 0 = (mi 53 (16 * j + k)).toInt64
      rw [zw_up_self, h.2.2.1.2.2.1 j k hj hk]
theorem zA_sh {n : Nat} : zl_A_sh n (zJ n) := fun mi ml h => ⟨zJ_10 h, zJ_321 h⟩
theorem zA_count {n : Nat} (hn : n ≤ 16) (mi qi : zw_I) (e : qi 32 1 = nI n) (h : ∀ i : Nat, i < n → qi 45 i = mi 20 i) : ∀ (f g k : Nat) (a : Int32), k ≤ n → n < k + f → n < k + g → p_count n mi f a (nI k) = q_count qi g a (nI k)
  | 0, _, k, a, h1, h2, _ => by omega
  | _, 0, k, a, h1, _, h2 => by omega
  | f + 1, g + 1, k, a, h1, h2, h3 => by
    rw [p_count, q_count, e]
    by_cases c : nI n ≤ nI k
    · rw [if_pos c, if_pos c]
    · have hk := zn_lt (by omega) c
      rw [if_neg c, if_neg c, nI_clamp (by omega), h k hk, nI_1, Int32.add_zero, zA_count hn mi qi e h f g (k + 1) a (by omega) (by omega) (by omega), zA_count hn mi qi e h f g (k + 1) (a + 1) (by omega) (by omega) (by omega)]
theorem zA_told {n : Nat} : zl_A_told n (zJ n) := by
  intro mi ml x h
  have hn := zJ_n h
  refine ⟨?_, zJ_up h (fun a b hab => zw_up_off _ _ hab) (fun _ _ _ => rfl)⟩
  have ec := zA_count hn mi (zw_up mi 32 0 0) (by rw [zw_up_ne2 _ _ _ (by decide)]; exact zJ_321 h) (fun i hi => by rw [zw_up_ne1 _ _ _ (by decide)]; exact (h.2.2.2.1 i hi).1) (n + 1) 17 0 0 (by omega) (by omega) (by omega)
  rw [show nI 0 = (0 : Int32) from rfl] at ec
  obtain ⟨⟨⟨-, -⟩, ⟨b1, b2⟩, ⟨r, -, -, b3, b4⟩, ⟨b5, -⟩, -⟩, -, ⟨⟨w, -, d1, d2⟩, -⟩⟩ := h.1
  obtain ⟨⟨f, -, r2, r3, -⟩, -, -, ⟨r7, r8, r9, r10, r11⟩, -, -⟩ := h.2.2.1
  have h35 := h.2.2.2.2.1
  unfold p_told q_told q_toldA
  rw [ec, zw_up_ne2 mi (b := 1) _ _ (by decide), zw_up_ne2 mi (b := 2) _ _ (by decide), zw_up_ne2 mi (b := 15) _ _ (by decide), zw_up_ne2 mi (b := 16) _ _ (by decide), zw_up_ne2 mi (b := 30) _ _ (by decide), zw_up_ne2 mi (b := 31) _ _ (by decide), zw_up_ne2 mi (b := 32) _ _ (by decide), zw_up_ne2 mi (b := 33) _ _ (by decide), zw_up_ne2 mi (b := 34) _ _ (by decide), zw_up_ne2 mi (b := 35) _ _ (by decide), zw_up_ne2 mi (b := 29) _ _ (by decide), b1, b2, b3, b4, b5, d1, d2, r7, r8, r9, r10, r11, h35, r2, r3]
