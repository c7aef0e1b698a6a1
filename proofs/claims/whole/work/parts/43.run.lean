/-- J: the same memory holds both -/
def zJ (n : Nat) (mi : zw_I) (ml : zw_L) : Prop := zj n mi ml mi ml
theorem zj_zi {n : Nat} {mi qi : zw_I} {ml ql : zw_L} (h : zj n mi ml qi ql) : zi n mi := by
  obtain ⟨⟨⟨⟨n1, n2⟩, ⟨b1, b2⟩, ⟨r, r1, r2, r3, r4⟩, ⟨b4, b5⟩, b6, b7, b8⟩, ⟨c1, c2, c3, c4⟩, ⟨k, k1, k2, k3⟩, d2⟩, -, -, -, -, hL, hC⟩ := h
  refine ⟨⟨n1, b1, ⟨r, r1, r2, r3⟩, b5, fun i hi => ⟨?_, ?_⟩⟩, fun i hi => ⟨?_, fun k hk => ?_⟩, ⟨k, k1, k2⟩, hL, hC⟩
  · obtain ⟨t, t1, t2, t3, -⟩ := b6 i hi
    exact ⟨t, t1, t2, t3⟩
  · obtain ⟨t, t1, t2, -⟩ := b7 i hi
    exact ⟨t, t1, t2⟩
  · obtain ⟨c, e1, e2, -⟩ := c1 i hi
    exact ⟨c, e1, e2⟩
  · obtain ⟨-, -, -, e1, e2⟩ := c2 i k hi hk
    exact ⟨e1, e2⟩
theorem p_within_of {x : Int32} {N : Nat} (hN : N ≤ 1000) (h : ¬ p_within x 1 (nI N) = 0) : ∃ w : Nat, 1 ≤ w ∧ w ≤ N ∧ x = nI w := by
  unfold p_within at h
  split at h
  · exact absurd rfl h
  · rename_i c1
    split at h
    · exact absurd rfl h
    · rename_i c2
      have h1 : ¬ x.toInt < (1 : Int32).toInt := fun q => c1 (Int32.lt_iff_toInt_lt.mpr q)
      have h2 : ¬ (nI N).toInt < x.toInt := fun q => c2 (Int32.lt_iff_toInt_lt.mpr q)
      have e1 : (1 : Int32).toInt = 1 := rfl
      rw [nI_toInt (by omega)] at h2
      refine ⟨x.toInt.toNat, by omega, by omega, Int32.toInt_inj.mp ?_⟩
      rw [nI_toInt (by omega)]
      omega
/-- a run of both: class first, then the reference over what the class left -/
theorem zj_run {n w : Nat} {mi : zw_I} {ml : zw_L} (h : zJ n mi ml) (hw : w ≤ 16) (x : Int64) {M1 : zw_I} {L1 : zw_L}
    (hM : (p_goE (p_go n (nI w) x mi ml).1 = 0 ∨ p_goE (p_go n (nI w) x mi ml).1 = 1) ∧ M1 = (p_put n (n + 1) 0 (p_go n (nI w) x mi ml).2.1 (p_go n (nI w) x mi ml).2.2).1 ∧ (∀ a b, a ≠ 30 → L1 a b = (p_put n (n + 1) 0 (p_go n (nI w) x mi ml).2.1 (p_go n (nI w) x mi ml).2.2).2 a b) ∨ (p_goE (p_go n (nI w) x mi ml).1 < 0) ∧ M1 = (p_go n (nI w) x mi ml).2.1 ∧ ∀ a b, a ≠ 30 → L1 a b = (p_go n (nI w) x mi ml).2.2 a b) :
    (q_runZ (q_run0 (nI w) x (zw_up M1 32 0 0) L1)).1 = p_goE (p_go n (nI w) x mi ml).1 ∧ (q_runZ (q_run0 (nI w) x (zw_up M1 32 0 0) L1)).2.1 32 0 = 0 ∧ (∀ b, (q_runZ (q_run0 (nI w) x (zw_up M1 32 0 0) L1)).2.2 30 b = L1 30 b) ∧ zJ n (q_runZ (q_run0 (nI w) x (zw_up M1 32 0 0) L1)).2.1 (q_runZ (q_run0 (nI w) x (zw_up M1 32 0 0) L1)).2.2 ∧ zj n mi ml M1 L1 := by
  have hn : n ≤ 16 := h.1.1.1.2
  have pp := p_put_is hn (n + 1) 0 (p_go n (nI w) x mi ml).2.1 (p_go n (nI w) x mi ml).2.2 (by omega) (by omega)
  rw [show nI 0 = (0 : Int32) from rfl] at pp
  obtain ⟨q1, q2, q3⟩ := pp
  have m1 : ∀ a b, a ≠ 20 → M1 a b = (p_go n (nI w) x mi ml).2.1 a b := fun a b ha => by
    rcases hM with ⟨-, e, -⟩ | ⟨-, e, -⟩
    · rw [e, q1, if_neg (by omega)]
    · rw [e]
  have l1 : ∀ a b, a ≠ 21 → a ≠ 30 → L1 a b = (p_go n (nI w) x mi ml).2.2 a b := fun a b ha ha' => by
    rcases hM with ⟨-, -, e⟩ | ⟨-, -, e⟩
    · rw [e a b ha', q3 a b (Or.inl ha)]
    · rw [e a b ha']
  have hj : zj n mi ml M1 L1 := zj.same h (fun _ _ _ => rfl) (fun _ _ _ => rfl) (fun a b h1 h2 _ => by rw [m1 a b (by omega), p_go_off (by unfold zf_x; omega)]) (fun a b h1 h2 => by rw [l1 a b (by omega) (by omega), p_go_offL (by omega)])
  have hb := zr_begin (w := w) hj hw
  obtain ⟨g1, g2⟩ := zr_loop (n := n) (w := w) 20001 0 x _ _ _ _ (by omega) (by omega) hb (p_prep_511 _ _ _)
  have eP : p_loop n 20001 x (p_end (p_prep n (nI w) mi ml).1) (p_prep n (nI w) mi ml).1 (p_prep n (nI w) mi ml).2 = p_go n (nI w) x mi ml := rfl
  have eQ : q_loop (nI w) 20001 x (q_end (q_begin (nI w) (zw_up M1 32 0 0) L1).1 (nI w)) (q_begin (nI w) (zw_up M1 32 0 0) L1).1 (q_begin (nI w) (zw_up M1 32 0 0) L1).2 = q_run0 (nI w) x (zw_up M1 32 0 0) L1 := rfl
  rw [eP, eQ] at g1 g2
  have qoff : ∀ a b, zf_q a b → (q_run0 (nI w) x (zw_up M1 32 0 0) L1).2.1 a b = zw_up M1 32 0 0 a b := fun a b hf => by
    rw [← eQ, q_loop_off hf]
    obtain ⟨c, c0, c1, c2⟩ := hj.1.2.2.1
    obtain ⟨N, eN, n23, n25, n0, n32, n44, n49, n53, n48, n52, n50, no, -, -⟩ := q_begin_is hn hw c0 (zw_up M1 32 0 0) L1 (by rw [zw_up_ne2 _ _ _ (by decide)]; exact hj.1.1.2.1.2) (by rw [zw_up_ne2 _ _ _ (by decide)]; exact c2)
    rw [eN]
    unfold zf_q at hf
    by_cases e : a = 32
    · subst e
      exact n32 b (by omega) (by omega) (by omega) (by omega)
    · exact no a b e (by omega) (by omega) (by omega) (by omega) (by omega) (by omega)
  have qoffL : ∀ a b, a ≠ 47 → (q_run0 (nI w) x (zw_up M1 32 0 0) L1).2.2 a b = L1 a b := fun a b ha => by
    rw [← eQ, q_loop_offL ha]
    obtain ⟨c, c0, c1, c2⟩ := hj.1.2.2.1
    obtain ⟨N, eN, -, -, -, -, -, -, -, -, -, -, -, -, nL'⟩ := q_begin_is hn hw c0 (zw_up M1 32 0 0) L1 (by rw [zw_up_ne2 _ _ _ (by decide)]; exact hj.1.1.2.1.2) (by rw [zw_up_ne2 _ _ _ (by decide)]; exact c2)
    exact nL' a b (fun e => absurd e ha)
  obtain ⟨Qr, eQr⟩ : ∃ y, y = q_run0 (nI w) x (zw_up M1 32 0 0) L1 := ⟨_, rfl⟩
  rw [← eQr] at g1 g2 qoff qoffL ⊢
  obtain ⟨Pr, ePr⟩ : ∃ y, y = p_go n (nI w) x mi ml := ⟨_, rfl⟩
  have hset : (p_go n (nI w) x mi ml).1 = 0 ∨ (p_go n (nI w) x mi ml).1 = 1 ∨ (p_go n (nI w) x mi ml).1 = -1 ∨ (p_go n (nI w) x mi ml).1 = -2 ∨ (p_go n (nI w) x mi ml).1 = 2 := p_loop_is _ _ _ _ _ (p_end_is _)
  rw [← ePr] at g1 g2 hM q1 q2 q3 m1 l1 hset ⊢
  have elive : ∀ a b, (a ≠ 32 ∨ b ≠ 35) → q_live Qr.2.1 a b = Qr.2.1 a b := fun a b hab => by unfold q_live; exact zw_up_off _ _ hab
  have e35 : q_live Qr.2.1 32 35 = Qr.2.1 32 25 := by unfold q_live; exact zw_up_self _ _ _ _
  have en : q_live Qr.2.1 32 1 = nI n := by rw [elive 32 1 (by omega)]; exact g2.2.1.1.2.1.2
  have hzi := zr_zi g2
  have o20 : ∀ i, Pr.2.1 20 i = mi 20 i := fun i => by rw [ePr]; exact p_go_off (by unfold zf_x; omega) _ _ _ _
  have o21 : ∀ i, Pr.2.2 21 i = ml 21 i := fun i => by rw [ePr]; exact p_go_offL (by omega) _ _ _ _
  unfold q_runZ
  dsimp only
  -- what the values' loop leaves, in both cases
  have vals : ∃ (V : zw_I) (U : zw_L), q_vals Qr.1 17 0 (q_live Qr.2.1) Qr.2.2 = (V, U) ∧ (∀ a b, a ≠ 45 → V a b = q_live Qr.2.1 a b) ∧ (∀ a b, a ≠ 46 → U a b = Qr.2.2 a b) ∧ zj_O n M1 L1 V U := by
    rcases hM with ⟨he, hm, hl⟩ | ⟨he, hm, hl⟩
    · have hn0 : ¬ Qr.1 < 0 := by rw [← g1]; rcases he with e | e <;> rw [e] <;> decide
      have vv := q_vals_is hn hn0 17 0 (q_live Qr.2.1) Qr.2.2 en (by omega) (by omega)
      rw [show nI 0 = (0 : Int32) from rfl] at vv
      obtain ⟨v1, v2, v3⟩ := vv
      refine ⟨(q_vals Qr.1 17 0 (q_live Qr.2.1) Qr.2.2).1, (q_vals Qr.1 17 0 (q_live Qr.2.1) Qr.2.2).2, rfl, fun a b ha => by rw [v1, if_neg (by omega)], fun a b ha => v3 a b (Or.inl ha), fun i hi => ?_⟩
      have ef : q_isFin (q_live Qr.2.1) (nI i) = p_isFin Pr.2.1 (nI i) := by
        have : q_isFin (q_live Qr.2.1) (nI i) = q_isFin Qr.2.1 (nI i) := by
          unfold q_isFin
          rw [elive 48 _ (by omega), elive 33 _ (by omega)]
        rw [this]
        exact zr_fin g2 hi
      rw [v1, if_pos (by omega), ef, hm, q1, if_pos (by omega), v2 i (by omega) hi, elive 33 _ (by omega)]
      refine ⟨rfl, ?_, fun hf => ?_⟩
      · unfold p_isFin
        split
        · exact Or.inl rfl
        · exact Or.inr rfl
      · rw [hl 21 i (by decide), q2 i (by omega) hi hf]
        obtain ⟨t, t1, t2, t3, t4⟩ := g2.2.1.1.2.2.2.2.1 i hi
        rw [t3, t4, nI_clamp (by omega), show (21 : Int32) = nI 21 from rfl, pk_mul, nI_add, nI_clamp (by omega)]
        exact g2.2.2.1 i t hi (by omega)
    · rw [q_vals_neg (by rw [← g1]; exact he)]
      refine ⟨q_live Qr.2.1, Qr.2.2, rfl, fun _ _ _ => rfl, fun _ _ _ => rfl, fun i hi => ?_⟩
      have f1 : M1 20 i = mi 20 i := by rw [hm]; exact o20 i
      rw [elive 45 i (by omega), qoff 45 i (by unfold zf_q; omega), zw_up_ne1 _ _ _ (by decide), qoffL 46 i (by decide), f1, hl 21 i (by decide), o21 i, hl 46 i (by decide), m1 45 i (by decide)]
      have f2 : Pr.2.1 45 i = mi 45 i := by rw [ePr]; exact p_go_off (by unfold zf_x; omega) _ _ _ _
      have f3 : Pr.2.2 46 i = ml 46 i := by rw [ePr]; exact p_go_offL (by omega) _ _ _ _
      rw [f2, f3]
      exact h.2.2.2.1 i hi
  obtain ⟨V, U, eV, v1, v2, hO⟩ := vals
  rw [eV]
  dsimp only
  have hzj : zj n M1 L1 V U := by
    refine ⟨g2.2.1.same (fun a b hs => m1 a b (by unfold zx_st at hs; omega)) (fun b => l1 9 b (by decide) (by decide)) (fun a b hs => by rw [v1 a b (by unfold zq_st at hs; omega), elive a b (by unfold zq_st at hs; omega)]) (fun b => v2 35 b (by decide)), ?_⟩
    refine ⟨fun i j hi hj0 hj => ?_, ⟨?_, ?_, ?_, ?_, ?_, ?_⟩, hO, ?_, ⟨?_, ?_, ?_⟩, ?_, ?_, ?_⟩
    · rw [v2 47 _ (by decide), l1 (112 + i) j (by omega) (by omega)]; exact g2.2.2.1 i j hi hj
    · obtain ⟨f, r1, r2, r3, r4⟩ := g2.2.2.2.1.1
      refine ⟨f, r1, by rw [m1 5 8 (by decide)]; exact r2, by rw [v1 32 29 (by decide), elive 32 29 (by omega)]; exact r3, fun k hk => ?_⟩
      rw [v1 51 k (by decide), elive 51 k (by omega), m1 27 k (by decide)]; exact r4 k hk
    · intro i hi
      rw [v1 52 i (by decide), elive 52 i (by omega), m1 25 i (by decide)]; exact g2.2.2.2.1.2.1 i hi
    · intro i j hi hj
      rw [v1 53 _ (by decide), elive 53 _ (by omega), m1 (128 + i) j (by omega)]; exact g2.2.2.2.1.2.2.1 i j hi hj
    · rw [v1 32 30 (by decide), elive 32 30 (by omega), v1 32 31 (by decide), elive 32 31 (by omega), v1 32 32 (by decide), elive 32 32 (by omega), v1 32 33 (by decide), elive 32 33 (by omega), v1 32 34 (by decide), elive 32 34 (by omega), m1 5 11 (by decide), m1 5 12 (by decide), m1 5 13 (by decide), m1 5 14 (by decide), m1 5 10 (by decide)]
      exact g2.2.2.2.1.2.2.2.1
    · intro k hk
      rw [v1 44 k (by decide), elive 44 k (by omega), m1 18 k (by decide)]; exact g2.2.2.2.1.2.2.2.2.1 k hk
    · intro k hk
      rw [v1 50 k (by decide), elive 50 k (by omega)]; exact g2.2.2.2.1.2.2.2.2.2 k hk
    · rw [v1 32 35 (by decide), e35, m1 6 2 (by decide), g2.2.2.2.2.2.1.1, g2.2.2.2.2.2.1.2.1]
    · rw [m1 4 1 (by decide)]; exact hzi.2.2.2.1.1
    · rw [m1 4 2 (by decide)]; exact hzi.2.2.2.1.2.1
    · intro i hi
      rw [m1 22 i (by decide)]; exact hzi.2.2.2.1.2.2 i hi
    · rw [m1 6 2 (by decide)]; exact hzi.2.2.2.2.1
    · intro k hk
      rw [m1 28 k (by decide)]; exact hzi.2.2.2.2.2.1 k hk
    · intro v hv
      rw [m1 29 v (by decide)]; exact hzi.2.2.2.2.2.2 v hv
  have x1 : ∀ a b, a < 30 ∨ 53 < a → V a b = M1 a b := fun a b ha => by rw [v1 a b (by omega), elive a b (by omega), qoff a b (by unfold zf_q; omega), zw_up_ne1 _ _ _ (by omega)]
  have x2 : ∀ a b, a < 30 ∨ 53 < a → U a b = L1 a b := fun a b ha => by rw [v2 a b (by omega), qoffL a b (by omega)]
  refine ⟨g1.symm, ?_, fun b => ?_, zj.same hzj x1 x2 (fun _ _ _ _ _ => rfl) (fun _ _ _ _ => rfl), hj⟩
  · rw [v1 32 0 (by decide), elive 32 0 (by omega), qoff 32 0 (by unfold zf_q; omega), zw_up_self]
  · rw [v2 30 b (by decide), qoffL 30 b (by decide)]
