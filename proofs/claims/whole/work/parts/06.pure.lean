-- Line (cell 4: ring 22, head 4 1, length 4 2)
def p_wrapped (n : Nat) (x : Int32) : Int32 := if nI n ≤ x then x - nI n else x
def p_first (mi : zw_I) : Int32 := if mi 4 2 ≤ 0 then -1 else mi 22 (mi 4 1).toNatClampNeg
def p_drop1 (mi : zw_I) : zw_I := zw_up mi 4 2 (mi 4 2 - 1)
def p_drop (n : Nat) (mi : zw_I) : zw_I := if mi 4 2 ≤ 0 then mi else p_drop1 (zw_up mi 4 1 (p_wrapped n (mi 4 1 + 1)))
def p_append1 (mi : zw_I) : zw_I := zw_up mi 4 2 (mi 4 2 + 1)
def p_append (n : Nat) (mi : zw_I) (x : Int32) : zw_I := if nI n ≤ mi 4 2 then mi else p_append1 (zw_up mi 22 (p_wrapped n (mi 4 1 + mi 4 2)).toNatClampNeg x)
def p_fill (n : Nat) : Nat → Int32 → zw_I → zw_I
  | 0, _, mi => mi
  | f + 1, k, mi => if nI n ≤ k then zw_up (zw_up mi 4 1 0) 4 2 (nI n) else p_fill n f (k + 1) (zw_up mi 22 k.toNatClampNeg k)
-- Crew (cell 6: living 28, held 29, count 6 2)
def p_gather (wk : Int32) : Nat → Int32 → zw_I → zw_I
  | 0, _, mi => mi
  | f + 1, k, mi => if wk ≤ k then zw_up mi 6 2 wk else p_gather wk f (k + 1) (zw_up (zw_up mi 28 k.toNatClampNeg k) 29 k.toNatClampNeg (-1))
def p_place (mi : zw_I) (x : Int64) : Int32 := ((x.toUInt64 >>> ((33 : Int32).toInt64.toUInt64 &&& Int64.toUInt64 63)).toInt64 - (x.toUInt64 >>> ((33 : Int32).toInt64.toUInt64 &&& Int64.toUInt64 63)).toInt64 / (mi 6 2).toInt64 * (mi 6 2).toInt64).toInt32
def p_turn (mi : zw_I) (x : Int64) : Int32 := if mi 6 2 ≤ 0 then -1 else mi 28 (p_place mi x).toNatClampNeg
def p_lose (wk : Int32) : Nat → Int32 → Int32 → zw_I → zw_I
  | 0, _, _, mi => mi
  | f + 1, q, k, mi => if mi 6 2 ≤ k then zw_up mi 6 2 q else if mi 28 k.toNatClampNeg = wk then p_lose wk f q (k + 1) mi else p_lose wk f (q + 1) (k + 1) (zw_up mi 28 q.toNatClampNeg (mi 28 k.toNatClampNeg))
-- Failings (cell 3: worker 14, share 15, step 16, times 17, timesLeft 18, count 3 5)
def p_fadd5 (mi : zw_I) : zw_I := zw_up mi 3 5 (mi 3 5 + 1)
def p_fadd4 (t : Int32) (mi : zw_I) : zw_I := p_fadd5 (zw_up mi 17 (mi 3 5).toNatClampNeg t)
def p_fadd3 (s t : Int32) (mi : zw_I) : zw_I := p_fadd4 t (zw_up mi 16 (mi 3 5).toNatClampNeg s)
def p_fadd2 (x s t : Int32) (mi : zw_I) : zw_I := p_fadd3 s t (zw_up mi 15 (mi 3 5).toNatClampNeg x)
def p_fadd (w x s t : Int32) (mi : zw_I) : zw_I := p_fadd2 x s t (zw_up mi 14 (mi 3 5).toNatClampNeg w)
def p_renew : Nat → Int32 → zw_I → zw_I
  | 0, _, mi => mi
  | f + 1, k, mi => if mi 3 5 ≤ k then mi else p_renew f (k + 1) (zw_up mi 18 k.toNatClampNeg (mi 17 k.toNatClampNeg))
def p_strike (w x s : Int32) (mi : zw_I) : Nat → Int32 → Int32 × zw_I
  | 0, _ => (0, mi)
  | f + 1, k => if mi 3 5 ≤ k then (0, mi) else if mi 14 k.toNatClampNeg = w then (if mi 15 k.toNatClampNeg = x then (if mi 16 k.toNatClampNeg = s then (if mi 18 k.toNatClampNeg ≤ 0 then p_strike w x s mi f (k + 1) else (1, zw_up mi 18 k.toNatClampNeg (mi 18 k.toNatClampNeg - 1))) else p_strike w x s mi f (k + 1)) else p_strike w x s mi f (k + 1)) else p_strike w x s mi f (k + 1)
-- Needs (cell 2: count 10, rows of step 64, other 80, least 96)
def p_nadd3 (x q : Int32) (mi : zw_I) : zw_I := zw_up mi 10 x.toNatClampNeg (q + 1)
def p_nadd (x s o m : Int32) (mi : zw_I) : zw_I := p_nadd3 x (mi 10 x.toNatClampNeg) (zw_up (zw_up (zw_up mi (64 + x.toNatClampNeg) (mi 10 x.toNatClampNeg).toNatClampNeg s) (80 + x.toNatClampNeg) (mi 10 x.toNatClampNeg).toNatClampNeg o) (96 + x.toNatClampNeg) (mi 10 x.toNatClampNeg).toNatClampNeg m)
def p_unmet (mi : zw_I) (x s : Int32) : Nat → Int32 → Int32
  | 0, _ => -1
  | f + 1, k => if mi 10 x.toNatClampNeg ≤ k then -1 else if mi (64 + x.toNatClampNeg) k.toNatClampNeg = s then (if mi (96 + x.toNatClampNeg) k.toNatClampNeg ≤ mi 23 (mi (80 + x.toNatClampNeg) k.toNatClampNeg).toNatClampNeg then p_unmet mi x s f (k + 1) else mi (80 + x.toNatClampNeg) k.toNatClampNeg) else p_unmet mi x s f (k + 1)
def p_sum (mi : zw_I) (ml : zw_L) (x s : Int32) : Nat → Int32 → Int64 → Int64
  | 0, _, a => a
  | f + 1, k, a => if mi 10 x.toNatClampNeg ≤ k then a else if mi (64 + x.toNatClampNeg) k.toNatClampNeg = s then p_sum mi ml x s f (k + 1) (a + ml (112 + (mi (80 + x.toNatClampNeg) k.toNatClampNeg).toNatClampNeg) (mi (96 + x.toNatClampNeg) k.toNatClampNeg).toNatClampNeg) else p_sum mi ml x s f (k + 1) a
-- Plan.reset (cell 1: shares 1 0, room 1 1, stopAt 1 7; steps 7, cells 8, starts 9)
def p_reset (n : Nat) : Nat → Int32 → zw_I → zw_L → zw_I × zw_L
  | 0, _, mi, ml => (mi, ml)
  | f + 1, k, mi, ml => if nI n ≤ k then (zw_up (zw_up mi 3 5 0) 1 7 (-1), ml) else p_reset n f (k + 1) (zw_up (zw_up (zw_up mi 7 k.toNatClampNeg 1) 8 k.toNatClampNeg 1) 10 k.toNatClampNeg 0) (zw_up ml 9 k.toNatClampNeg k.toInt64)
-- Course (cell 5)
def p_isFin (mi : zw_I) (x : Int32) : Int32 := if mi 23 x.toNatClampNeg < mi 7 x.toNatClampNeg then 0 else 1
def p_canTake (mi : zw_I) : Int32 := if p_first mi = -1 then 0 else if mi 1 1 < mi 5 9 + mi 8 (p_first mi).toNatClampNeg then 0 else 1
def p_wait (mi : zw_I) (x : Int32) : Int32 := p_unmet mi x (mi 23 x.toNatClampNeg) 7 0
def p_stuck (mi : zw_I) : Nat → Int32 → Int32
  | 0, _ => 1
  | f + 1, k => if mi 6 2 ≤ k then 1 else if mi 29 (mi 28 k.toNatClampNeg).toNatClampNeg = -1 then (if p_canTake mi = 0 then p_stuck mi f (k + 1) else 0) else (if p_wait mi (mi 29 (mi 28 k.toNatClampNeg).toNatClampNeg) = -1 then 0 else p_stuck mi f (k + 1))
def p_end (mi : zw_I) : Int32 := if mi 5 8 < mi 1 0 then (if mi 1 7 = -1 then (if mi 6 2 = 0 then -1 else if p_stuck mi 17 0 = 0 then 2 else -2) else if p_isFin mi (mi 1 7) = 0 then (if mi 6 2 = 0 then -1 else if p_stuck mi 17 0 = 0 then 2 else -2) else 1) else 0
def p_take4 (mi : zw_I) : zw_I := zw_up mi 5 10 (if mi 5 10 < mi 5 9 then mi 5 9 else mi 5 10)
def p_take3 (x : Int32) (mi : zw_I) : zw_I := p_take4 (zw_up mi 5 9 (mi 5 9 + mi 8 x.toNatClampNeg))
def p_take2 (x : Int32) (mi : zw_I) : zw_I := p_take3 x (zw_up mi 25 x.toNatClampNeg (mi 25 x.toNatClampNeg + 1))
def p_take1 (n : Nat) (wk : Int32) (mi : zw_I) : zw_I := p_take2 (p_first mi) (zw_up (p_drop n mi) 29 wk.toNatClampNeg (p_first mi))
def p_take (n : Nat) (wk : Int32) (mi : zw_I) : Int32 × zw_I := if p_canTake mi = 0 then (0, zw_up mi 5 12 (mi 5 12 + 1)) else (1, p_take1 n wk mi)
def p_fail2 (n : Nat) (x : Int32) (mi : zw_I) : zw_I := p_append n (zw_up mi 5 9 (mi 5 9 - mi 8 x.toNatClampNeg)) x
def p_fail1 (wk x : Int32) (mi : zw_I) : zw_I := zw_up (p_lose wk 17 0 0 mi) 23 x.toNatClampNeg 0
def p_fail (n : Nat) (wk x : Int32) (mi : zw_I) : zw_I := p_fail2 n x (p_fail1 wk x mi)
def p_mix (y : Int64) : Int64 := y ^^^ (y.toUInt64 >>> ((29 : Int32).toInt64.toUInt64 &&& Int64.toUInt64 63)).toInt64
def p_next (mi : zw_I) (ml : zw_L) (x : Int32) : Int64 := ml (112 + x.toNatClampNeg) (mi 23 x.toNatClampNeg).toNatClampNeg * 6364136223846793005 + (mi 23 x.toNatClampNeg).toInt64 + 1 + p_sum mi ml x (mi 23 x.toNatClampNeg) 7 0 0
def p_stepL (mi : zw_I) (ml : zw_L) (x : Int32) : zw_L := zw_up ml (112 + x.toNatClampNeg) (mi 23 x.toNatClampNeg + 1).toNatClampNeg (p_mix (p_next mi ml x))
def p_step2 (mi : zw_I) : zw_I := zw_up mi 5 14 (mi 5 14 + 1)
def p_step1 (x : Int32) (mi : zw_I) : zw_I := p_step2 (zw_up mi 23 x.toNatClampNeg (mi 23 x.toNatClampNeg + 1))
def p_step6 (mi : zw_I) : zw_I := zw_up mi 5 8 (mi 5 8 + 1)
def p_step5 (x : Int32) (mi : zw_I) : zw_I := p_step6 (zw_up mi 27 (mi 5 8).toNatClampNeg x)
def p_step4 (x : Int32) (mi : zw_I) : zw_I := p_step5 x (zw_up mi 5 9 (mi 5 9 - mi 8 x.toNatClampNeg))
def p_step3 (wk x : Int32) (mi : zw_I) : zw_I := p_step4 x (zw_up mi 29 wk.toNatClampNeg (-1))
def p_stepB (wk x : Int32) (mi : zw_I) : zw_I := if p_isFin mi x = 0 then mi else p_step3 wk x mi
def p_step (wk x : Int32) (mi : zw_I) : zw_I := p_stepB wk x (p_step1 x mi)
def p_awaits2 (mi : zw_I) : zw_I := zw_up mi 5 13 (mi 5 13 + 1)
def p_awaits (x a : Int32) (mi : zw_I) : zw_I := p_awaits2 (zw_up mi (128 + x.toNatClampNeg) a.toNatClampNeg (mi (128 + x.toNatClampNeg) a.toNatClampNeg + 1))
def p_tick4 (n : Nat) (wk x : Int32) (q : Int32 × zw_I) (ml : zw_L) : Int32 × zw_I × zw_L := if q.1 = 0 then (1, p_step wk x q.2, p_stepL q.2 ml x) else (1, p_fail n wk x q.2, ml)
def p_tick3 (n : Nat) (wk x : Int32) (mi : zw_I) (ml : zw_L) : Int32 × zw_I × zw_L := if p_wait mi x = -1 then p_tick4 n wk x (p_strike wk x (mi 23 x.toNatClampNeg) mi 9 0) ml else (0, p_awaits x (p_wait mi x) mi, ml)
def p_tick2 (n : Nat) (wk x : Int32) (mi : zw_I) (ml : zw_L) : Int32 × zw_I × zw_L := if x = -1 then ((p_take n wk mi).1, (p_take n wk mi).2, ml) else p_tick3 n wk x mi ml
def p_tick (n : Nat) (wk : Int32) (mi : zw_I) (ml : zw_L) : Int32 × zw_I × zw_L := if wk = -1 then (0, mi, ml) else p_tick2 n wk (mi 29 wk.toNatClampNeg) mi ml
def p_prepW (n : Nat) (i : Nat) : Nat → Int32 → zw_I → zw_I
  | 0, _, mi => mi
  | f + 1, k, mi => if nI n ≤ k then mi else p_prepW n i f (k + 1) (zw_up mi (128 + i) k.toNatClampNeg 0)
def p_prepA (n : Nat) : Nat → Int32 → zw_I → zw_L → zw_I × zw_L
  | 0, _, mi, ml => (mi, ml)
  | f + 1, k, mi, ml => if nI n ≤ k then (mi, ml) else p_prepA n f (k + 1) (p_prepW n k.toNatClampNeg (n + 1) 0 (zw_up (zw_up mi 23 k.toNatClampNeg 0) 25 k.toNatClampNeg 0)) (zw_up ml (112 + k.toNatClampNeg) (0 : Int32).toNatClampNeg (ml 9 k.toNatClampNeg))
def p_zero (mi : zw_I) : zw_I := zw_up (zw_up (zw_up (zw_up (zw_up (zw_up (zw_up mi 5 8 0) 5 9 0) 5 10 0) 5 11 0) 5 12 0) 5 13 0) 5 14 0
def p_prepZ (n : Nat) (wk : Int32) (mi : zw_I) : zw_I := p_zero (p_renew 9 0 (p_gather wk 17 0 (p_fill n (n + 1) 0 mi)))
def p_prep (n : Nat) (wk : Int32) (mi : zw_I) (ml : zw_L) : zw_I × zw_L := (p_prepZ n wk (p_prepA n (n + 1) 0 mi ml).1, (p_prepA n (n + 1) 0 mi ml).2)
def p_x (x : Int64) : Int64 := x * 6364136223846793005 + 1442695040888963407
def p_t1 (mi : zw_I) : zw_I := zw_up mi 5 11 (mi 5 11 + 1)
/-- the loop of go -/
def p_loop (n : Nat) : Nat → Int64 → Int32 → zw_I → zw_L → Int32 × zw_I × zw_L
  | 0, _, e, mi, ml => (e, mi, ml)
  | f + 1, x, e, mi, ml => if e = 2 then (if 20000 ≤ mi 5 11 then (e, mi, ml) else (if (p_tick n (p_turn (p_t1 mi) (p_x x)) (p_t1 mi) ml).1 = 0 then p_loop n f (p_x x) e (p_tick n (p_turn (p_t1 mi) (p_x x)) (p_t1 mi) ml).2.1 (p_tick n (p_turn (p_t1 mi) (p_x x)) (p_t1 mi) ml).2.2 else p_loop n f (p_x x) (p_end (p_tick n (p_turn (p_t1 mi) (p_x x)) (p_t1 mi) ml).2.1) (p_tick n (p_turn (p_t1 mi) (p_x x)) (p_t1 mi) ml).2.1 (p_tick n (p_turn (p_t1 mi) (p_x x)) (p_t1 mi) ml).2.2)) else (e, mi, ml)
def p_goE (e : Int32) : Int32 := if e = 2 then -3 else e
def p_go (n : Nat) (wk : Int32) (x : Int64) (mi : zw_I) (ml : zw_L) : Int32 × zw_I × zw_L := p_loop n 20001 x (p_end (p_prep n wk mi ml).1) (p_prep n wk mi ml).1 (p_prep n wk mi ml).2
-- what keeps every index in its range
def zi_P (n : Nat) (mi : zw_I) : Prop := 1 ≤ n ∧ mi 1 0 = nI n ∧ (∃ r : Nat, 1 ≤ r ∧ r ≤ 1000 ∧ mi 1 1 = nI r) ∧ (mi 1 7 = -1 ∨ vp_in (mi 1 7) n) ∧ ∀ i : Nat, i < n → (∃ t : Nat, 1 ≤ t ∧ t ≤ 20 ∧ mi 7 i = nI t) ∧ ∃ w : Nat, w ≤ 1000 ∧ mi 8 i = nI w
def zi_N (n : Nat) (mi : zw_I) : Prop := ∀ i : Nat, i < n → (∃ w : Nat, w ≤ 6 ∧ mi 10 i = nI w) ∧ ∀ k : Nat, k < 6 → vp_in (mi (80 + i) k) n ∧ vp_in (mi (96 + i) k) 21
def zi_F (mi : zw_I) : Prop := ∃ w : Nat, w ≤ 8 ∧ mi 3 5 = nI w
def zi_L (n : Nat) (mi : zw_I) : Prop := vp_in (mi 4 1) n ∧ (∃ q : Nat, q ≤ n ∧ mi 4 2 = nI q) ∧ ∀ i : Nat, i < n → vp_in (mi 22 i) n
def zi_C (n : Nat) (mi : zw_I) : Prop := (∃ w : Nat, w ≤ 16 ∧ mi 6 2 = nI w) ∧ (∀ k : Nat, k < 16 → vp_in (mi 28 k) 16) ∧ ∀ w : Nat, w < 16 → mi 29 w = -1 ∨ vp_in (mi 29 w) n
def zi (n : Nat) (mi : zw_I) : Prop := zi_P n mi ∧ zi_N n mi ∧ zi_F mi ∧ zi_L n mi ∧ zi_C n mi
theorem zi_first {n : Nat} {mi : zw_I} (h : zi n mi) : p_first mi = -1 ∨ vp_in (p_first mi) n := by
  unfold p_first
  by_cases c : mi 4 2 ≤ 0
  · rw [if_pos c]; exact Or.inl rfl
  · rw [if_neg c]; exact Or.inr (h.2.2.2.1.2.2 _ (vlt h.2.2.2.1.1))
theorem zi_firstN {n : Nat} {mi : zw_I} (h : zi n mi) (c : ¬ p_first mi = -1) : vp_in (p_first mi) n := (zi_first h).elim (fun e => absurd e c) id
theorem p_fill_off {n : Nat} {a b : Nat} (h1 : a ≠ 22) (h2 : a ≠ 4) : ∀ (f : Nat) (k : Int32) (mi : zw_I), p_fill n f k mi a b = mi a b
  | 0, _, _ => rfl
  | f + 1, k, mi => by
    rw [p_fill]
    split
    · simp [zw_up, h2]
    · rw [p_fill_off h1 h2 f]; simp [zw_up, h1]
theorem p_gather_off {wk : Int32} {a b : Nat} (h1 : a ≠ 6) (h2 : a ≠ 28) (h3 : a ≠ 29) : ∀ (f : Nat) (k : Int32) (mi : zw_I), p_gather wk f k mi a b = mi a b
  | 0, _, _ => rfl
  | f + 1, k, mi => by
    rw [p_gather]
    split
    · simp [zw_up, h1]
    · rw [p_gather_off h1 h2 h3 f]; simp [zw_up, h2, h3]
theorem p_renew_off {a b : Nat} (h1 : a ≠ 18) : ∀ (f : Nat) (k : Int32) (mi : zw_I), p_renew f k mi a b = mi a b
  | 0, _, _ => rfl
  | f + 1, k, mi => by
    rw [p_renew]
    split
    · rfl
    · rw [p_renew_off h1 f]; simp [zw_up, h1]
theorem p_lose_off {wk : Int32} {a b : Nat} (h1 : a ≠ 6) (h2 : a ≠ 28) : ∀ (f : Nat) (q k : Int32) (mi : zw_I), p_lose wk f q k mi a b = mi a b
  | 0, _, _, _ => rfl
  | f + 1, q, k, mi => by
    rw [p_lose]
    split
    · simp [zw_up, h1]
    · split
      · exact p_lose_off h1 h2 f q (k + 1) mi
      · rw [p_lose_off h1 h2 f]; simp [zw_up, h2]
theorem p_strike_off {w x s : Int32} {mi : zw_I} {a b : Nat} (h1 : a ≠ 18) : ∀ (f : Nat) (k : Int32), (p_strike w x s mi f k).2 a b = mi a b
  | 0, _ => rfl
  | f + 1, k => by
    rw [p_strike]
    split
    · rfl
    · split
      · split
        · split
          · split
            · exact p_strike_off h1 f (k + 1)
            · simp [zw_up, h1]
          · exact p_strike_off h1 f (k + 1)
        · exact p_strike_off h1 f (k + 1)
      · exact p_strike_off h1 f (k + 1)
theorem p_prepW_off {n i a b : Nat} (h : a ≠ 128 + i) : ∀ (f : Nat) (k : Int32) (mi : zw_I), p_prepW n i f k mi a b = mi a b
  | 0, _, _ => rfl
  | f + 1, k, mi => by
    rw [p_prepW]
    split
    · rfl
    · rw [p_prepW_off h f]; simp [zw_up, h]
theorem p_prepA_off {n a b : Nat} (h1 : a ≠ 23) (h2 : a ≠ 25) (h3 : a < 128) : ∀ (f : Nat) (k : Int32) (mi : zw_I) (ml : zw_L), (p_prepA n f k mi ml).1 a b = mi a b
  | 0, _, _, _ => rfl
  | f + 1, k, mi, ml => by
    rw [p_prepA]
    split
    · rfl
    · rw [p_prepA_off h1 h2 h3 f, p_prepW_off (by omega)]; simp [zw_up, h1, h2]
theorem p_unmet_in {n : Nat} {mi : zw_I} {x s : Int32} {w : Nat} (hw : w ≤ 6) (ew : mi 10 x.toNatClampNeg = nI w) (ho : ∀ k : Nat, k < 6 → vp_in (mi (80 + x.toNatClampNeg) k) n) : ∀ (f i : Nat), i < 100 → f ≤ 7 → p_unmet mi x s f (nI i) = -1 ∨ vp_in (p_unmet mi x s f (nI i)) n
  | 0, _, _, _ => Or.inl rfl
  | f + 1, i, hi, hf => by
    rw [p_unmet]
    by_cases c : mi 10 x.toNatClampNeg ≤ nI i
    · rw [if_pos c]; exact Or.inl rfl
    · rw [if_neg c]
      have hlt : i < w := zn_lt (by omega) (by rw [← ew]; exact c)
      have ih := p_unmet_in (s := s) hw ew ho f (i + 1) (by omega) (by omega)
      rw [nI_1 i]
      split
      · split
        · exact ih
        · exact Or.inr (ho _ (by rw [nI_clamp (by omega)]; omega))
      · exact ih
theorem zi_wait {n : Nat} {mi : zw_I} {x : Int32} (hI : zi n mi) (hx : vp_in x n) : p_wait mi x = -1 ∨ vp_in (p_wait mi x) n := by
  obtain ⟨⟨w, hw, ew⟩, ho⟩ := hI.2.1 _ (vlt hx)
  exact p_unmet_in hw ew (fun k hk => (ho k hk).1) 7 0 (by decide) (by decide)
/-- the share that a worker works at is not finished -/
def zi_T (n : Nat) (mi : zw_I) (x : Int32) : Prop := vp_in (mi 23 x.toNatClampNeg) 21 ∧ vp_in (mi 23 x.toNatClampNeg + 1) 21 ∧ vp_in (mi 5 8) n
theorem zi_same {n : Nat} {mi m : zw_I} (hn : n ≤ 16) (h : ∀ a b, a ≠ 18 → a < 112 → m a b = mi a b) (hI : zi n mi) : zi n m := by
  obtain ⟨⟨p1, p2, p3, p4, p5⟩, hN, hF, ⟨l1, l2, l3⟩, c1, c2, c3⟩ := hI
  have e : ∀ a b, a ≠ 18 → a < 112 → m a b = mi a b := h
  refine ⟨⟨p1, ?_, ?_, ?_, fun i hi => ?_⟩, fun i hi => ?_, ?_, ⟨?_, ?_, fun i hi => ?_⟩, ?_, fun k hk => ?_, fun w hw => ?_⟩
  · rw [e 1 0 (by decide) (by decide)]; exact p2
  · rw [e 1 1 (by decide) (by decide)]; exact p3
  · rw [e 1 7 (by decide) (by decide)]; exact p4
  · rw [e 7 i (by decide) (by decide), e 8 i (by decide) (by decide)]; exact p5 i hi
  · obtain ⟨q1, q2⟩ := hN i hi
    refine ⟨by rw [e 10 i (by decide) (by decide)]; exact q1, fun k hk => ?_⟩
    rw [e (80 + i) k (by omega) (by omega), e (96 + i) k (by omega) (by omega)]
    exact q2 k hk
  · unfold zi_F; rw [e 3 5 (by decide) (by decide)]; exact hF
  · rw [e 4 1 (by decide) (by decide)]; exact l1
  · rw [e 4 2 (by decide) (by decide)]; exact l2
  · rw [e 22 i (by decide) (by decide)]; exact l3 i hi
  · rw [e 6 2 (by decide) (by decide)]; exact c1
  · rw [e 28 k (by decide) (by decide)]; exact c2 k hk
  · rw [e 29 w (by decide) (by decide)]; exact c3 w hw
theorem zi_t1 {n : Nat} {mi : zw_I} (hn : n ≤ 16) (hI : zi n mi) : zi n (p_t1 mi) := by
  obtain ⟨⟨p1, p2, p3, p4, p5⟩, hN, hF, ⟨l1, l2, l3⟩, c1, c2, c3⟩ := hI
  have e : ∀ a b, a ≠ 5 → p_t1 mi a b = mi a b := fun a b h => zw_up_ne1 _ _ _ h
  refine ⟨⟨p1, ?_, ?_, ?_, fun i hi => ?_⟩, fun i hi => ?_, ?_, ⟨?_, ?_, fun i hi => ?_⟩, ?_, fun k hk => ?_, fun w hw => ?_⟩
  · rw [e 1 0 (by decide)]; exact p2
  · rw [e 1 1 (by decide)]; exact p3
  · rw [e 1 7 (by decide)]; exact p4
  · rw [e 7 i (by decide), e 8 i (by decide)]; exact p5 i hi
  · obtain ⟨q1, q2⟩ := hN i hi
    refine ⟨by rw [e 10 i (by decide)]; exact q1, fun k hk => ?_⟩
    rw [e (80 + i) k (by omega), e (96 + i) k (by omega)]
    exact q2 k hk
  · unfold zi_F; rw [e 3 5 (by decide)]; exact hF
  · rw [e 4 1 (by decide)]; exact l1
  · rw [e 4 2 (by decide)]; exact l2
  · rw [e 22 i (by decide)]; exact l3 i hi
  · rw [e 6 2 (by decide)]; exact c1
  · rw [e 28 k (by decide)]; exact c2 k hk
  · rw [e 29 w (by decide)]; exact c3 w hw
theorem zi_T_same {n : Nat} {mi m : zw_I} {x : Int32} (h : ∀ a b, a ≠ 18 → m a b = mi a b) (ht : zi_T n mi x) : zi_T n m x := by
  unfold zi_T
  rw [h 23 _ (by decide), h 5 8 (by decide)]
  exact ht
theorem zi_wrap {n : Nat} {mi : zw_I} (hn : n ≤ 16) (h : zi_L n mi) (c : ¬ nI n ≤ mi 4 2) : vp_in (p_wrapped n (mi 4 1 + mi 4 2)) n := by
  obtain ⟨h1, ⟨q, hq, eq⟩, -⟩ := h
  obtain ⟨j, hj, ej⟩ := vp_in_of h1 (by omega)
  rw [eq] at c ⊢
  rw [ej, nI_add]
  have hlt : q < n := zn_lt (by omega) c
  unfold p_wrapped
  by_cases hc : nI n ≤ nI (j + q)
  · have := zn_le (by omega) (by omega) hc
    rw [if_pos hc, pk_sub this]
    exact vp_in_nI (by omega) (by omega)
  · have := zn_lt (by omega) hc
    rw [if_neg hc]
    exact vp_in_nI (by omega) (by omega)
theorem p_fail1_line {wk x : Int32} {mi : zw_I} {b : Nat} : p_fail1 wk x mi 4 b = mi 4 b := by
  unfold p_fail1
  rw [zw_up_ne1 _ _ _ (by decide), p_lose_off (by decide) (by decide)]
theorem nz_of {x : Int32} (h : x = 0 ∨ x = 1) : narrow .boolean (.int x) = .int x := by rcases h with rfl | rfl <;> rfl
theorem p_take_01 {n : Nat} {wk : Int32} {mi : zw_I} : (p_take n wk mi).1 = 0 ∨ (p_take n wk mi).1 = 1 := by
  unfold p_take
  split
  · exact Or.inl rfl
  · exact Or.inr rfl
/-- what keeps a run's ticks in their ranges: G is kept by every tick -/
def zg_K (n : Nat) (G : zw_I → Prop) : Prop := (∀ mi : zw_I, G mi → zi n mi) ∧ (∀ (mi : zw_I) (ml : zw_L) (x : Int64), G mi → G (p_tick n (p_turn (p_t1 mi) x) (p_t1 mi) ml).2.1) ∧
  ∀ (mi : zw_I) (x : Int64), G mi → (¬ p_t1 mi 6 2 ≤ 0 → vp_in (p_place (p_t1 mi) x) 16) ∧ (¬ p_t1 mi 6 2 ≤ 0 → ¬ (p_t1 mi 6 2).toInt64 = 0) ∧ (p_turn (p_t1 mi) x = -1 ∨ vp_in (p_turn (p_t1 mi) x) 16) ∧ (¬ p_turn (p_t1 mi) x = -1 → ∀ y : Int32, p_t1 mi 29 (p_turn (p_t1 mi) x).toNatClampNeg = y → ¬ y = -1 → vp_in y n ∧ zi_T n (p_t1 mi) y)
