def shMl : List (Option zw_Sp) := [some (.inl (7, [(0, 0), (0, 0), (0, 0), (2, 33), (2, 34), (2, 35), (2, 36), (2, 37), (2, 38), (2, 39), (2, 40), (2, 41), (2, 42), (2, 43), (2, 44), (0, 0), (0, 0), (2, 45), (2, 46), (2, 47), (2, 48), (2, 49), (2, 50), (0, 0), (0, 0), (0, 0), (2, 51), (2, 52), (2, 53), (0, 0), (0, 0), (0, 0), (0, 0), (0, 0), (0, 0), (0, 0)])), some (.inr (0, 16, 0)), some (.inr (0, 16, 0)), some (.inr (1, 16, 0)), some (.inr (0, 16, 0)), some (.inr (0, 96, 0)), some (.inr (0, 96, 0)), some (.inr (0, 96, 0)), some (.inr (0, 8, 0)), some (.inr (0, 8, 0)), some (.inr (0, 8, 0)), some (.inr (0, 8, 0)), some (.inr (0, 8, 0)), some (.inr (2, 16, 0)), some (.inr (1, 16, 0)), some (.inr (1, 336, 0)), some (.inr (0, 16, 0)), some (.inr (0, 16, 0)), some (.inr (0, 16, 0)), some (.inr (0, 16, 0)), some (.inr (0, 16, 0)), some (.inr (0, 256, 0))]
def shM (k : Nat) : Option zw_Sp := if k < 32 then none else shMl.getD (k - 32) none
-- the reference (cell 32): code 0, shares 1, room 2, failings 15, stop 16, queued 23, used 24, living 25, finished 29, ticks 30, idle 31, waits 32, stepsDone 33, most 34, livedAtEnd 35
def q_isShare (mi : zw_I) (x : Int32) : Int32 := if x < 0 then 0 else if mi 32 1 ≤ x then 0 else 1
theorem q_isShare_01 {mi : zw_I} {x : Int32} : q_isShare mi x = 0 ∨ q_isShare mi x = 1 := by
  unfold q_isShare
  split
  · exact Or.inl rfl
  · split
    · exact Or.inl rfl
    · exact Or.inr rfl
def q_share3 (x st ce : Int32) (mi : zw_I) : zw_I := zw_up (zw_up (zw_up mi 32 0 0) 33 x.toNatClampNeg st) 34 x.toNatClampNeg ce
def q_share (mi : zw_I) (ml : zw_L) (x st ce : Int32) (t : Int64) : Int32 × zw_I × zw_L := if q_isShare mi x = 0 then (0, zw_up mi 32 0 1, ml) else if p_within st 1 20 = 0 then (0, zw_up mi 32 0 2, ml) else if p_within ce 1 (mi 32 2) = 0 then (0, zw_up mi 32 0 2, ml) else (q_share3 x st ce mi 36 x.toNatClampNeg, q_share3 x st ce mi, zw_up ml 35 x.toNatClampNeg t)
def q_need2 (x : Int32) (mi : zw_I) : zw_I := zw_up mi 36 x.toNatClampNeg (mi 36 x.toNatClampNeg + 1)
def q_need1 (x s o m a : Int32) (mi : zw_I) : zw_I := q_need2 x (zw_up (zw_up (zw_up mi 37 a.toNatClampNeg s) 38 a.toNatClampNeg o) 39 a.toNatClampNeg m)
def q_need0 (x s o m : Int32) (mi : zw_I) : zw_I := q_need1 x s o m (6 * x + mi 36 x.toNatClampNeg) mi
def q_need (mi : zw_I) (x s o m : Int32) : Int32 × zw_I := if q_isShare mi x = 0 then (0, zw_up mi 32 0 1) else if q_isShare mi o = 0 then (0, zw_up mi 32 0 1) else if p_within s 0 19 = 0 then (0, zw_up mi 32 0 2) else if p_within m 1 20 = 0 then (0, zw_up mi 32 0 2) else if o = x then (0, zw_up mi 32 0 2) else if mi 36 x.toNatClampNeg = 6 then (0, zw_up mi 32 0 3) else (q_need0 x s o m (zw_up mi 32 0 0) 36 x.toNatClampNeg, q_need0 x s o m (zw_up mi 32 0 0))
def q_free (mi : zw_I) (x : Int32) : Int32 × zw_I := if q_isShare mi x = 0 then (0, zw_up mi 32 0 1) else (zw_up mi 32 0 0 36 x.toNatClampNeg, zw_up (zw_up mi 32 0 0) 36 x.toNatClampNeg 0)
def q_fail5 (mi : zw_I) : zw_I := zw_up mi 32 15 (mi 32 15 + 1)
def q_fail4 (t : Int32) (mi : zw_I) : zw_I := q_fail5 (zw_up mi 43 (mi 32 15).toNatClampNeg t)
def q_fail3 (s t : Int32) (mi : zw_I) : zw_I := q_fail4 t (zw_up mi 42 (mi 32 15).toNatClampNeg s)
def q_fail2 (x s t : Int32) (mi : zw_I) : zw_I := q_fail3 s t (zw_up mi 41 (mi 32 15).toNatClampNeg x)
def q_fail1 (w x s t : Int32) (mi : zw_I) : zw_I := q_fail2 x s t (zw_up mi 40 (mi 32 15).toNatClampNeg w)
def q_failing (mi : zw_I) (w x s t : Int32) : Int32 × zw_I := if q_isShare mi x = 0 then (0, zw_up mi 32 0 1) else if p_within w 0 15 = 0 then (0, zw_up mi 32 0 2) else if p_within s 0 19 = 0 then (0, zw_up mi 32 0 2) else if p_within t 1 9 = 0 then (0, zw_up mi 32 0 2) else if mi 32 15 = 8 then (0, zw_up mi 32 0 3) else (q_fail1 w x s t (zw_up mi 32 0 0) 32 15, q_fail1 w x s t (zw_up mi 32 0 0))
def q_stop (mi : zw_I) (x : Int32) : Int32 × zw_I := if x = -1 then (zw_up mi 32 0 0 32 16, zw_up (zw_up mi 32 0 0) 32 16 x) else if q_isShare mi x = 0 then (0, zw_up mi 32 0 1) else (zw_up mi 32 0 0 32 16, zw_up (zw_up mi 32 0 0) 32 16 x)
def q_waits (mi : zw_I) (x : Int32) : Nat → Int32 → Int32
  | 0, _ => -1
  | f + 1, k => if mi 36 x.toNatClampNeg ≤ k then -1 else if mi 37 (6 * x + k).toNatClampNeg = mi 48 x.toNatClampNeg then (if mi 39 (6 * x + k).toNatClampNeg ≤ mi 48 (mi 38 (6 * x + k).toNatClampNeg).toNatClampNeg then q_waits mi x f (k + 1) else 6 * x + k) else q_waits mi x f (k + 1)
def q_canTake (mi : zw_I) : Int32 := if mi 32 23 ≤ 0 then 0 else if mi 32 2 < mi 32 24 + mi 34 (mi 50 (0 : Int32).toNatClampNeg).toNatClampNeg then 0 else 1
theorem q_canTake_01 {mi : zw_I} : q_canTake mi = 0 ∨ q_canTake mi = 1 := by
  unfold q_canTake
  split
  · exact Or.inl rfl
  · split
    · exact Or.inl rfl
    · exact Or.inr rfl
def q_shift : Nat → Int32 → zw_I → zw_I
  | 0, _, mi => mi
  | f + 1, k, mi => if mi 32 23 ≤ k then mi else q_shift f (k + 1) (zw_up mi 50 k.toNatClampNeg (mi 50 (k + 1).toNatClampNeg))
def q_take4 (mi : zw_I) : zw_I := if mi 32 24 ≤ mi 32 34 then zw_up mi 32 34 (mi 32 34) else zw_up mi 32 34 (mi 32 24)
def q_take3 (x : Int32) (mi : zw_I) : zw_I := q_take4 (zw_up mi 32 24 (mi 32 24 + mi 34 x.toNatClampNeg))
def q_take2 (x : Int32) (mi : zw_I) : zw_I := q_take3 x (zw_up mi 52 x.toNatClampNeg (mi 52 x.toNatClampNeg + 1))
def q_take1 (wk x : Int32) (mi : zw_I) : zw_I := q_take2 x (zw_up mi 49 wk.toNatClampNeg x)
def q_take (wk : Int32) (mi : zw_I) : zw_I := q_take1 wk (mi 50 (0 : Int32).toNatClampNeg) (q_shift 17 0 (zw_up mi 32 23 (mi 32 23 - 1)))
def q_fails (w x : Int32) (mi : zw_I) : Nat → Int32 → Int32 × zw_I
  | 0, _ => (0, mi)
  | f + 1, k => if mi 32 15 ≤ k then (0, mi) else if mi 44 k.toNatClampNeg ≤ 0 then q_fails w x mi f (k + 1) else if mi 40 k.toNatClampNeg = w then (if mi 41 k.toNatClampNeg = x then (if mi 42 k.toNatClampNeg = mi 48 x.toNatClampNeg then (1, zw_up mi 44 k.toNatClampNeg (mi 44 k.toNatClampNeg - 1)) else q_fails w x mi f (k + 1)) else q_fails w x mi f (k + 1)) else q_fails w x mi f (k + 1)
def q_sum (mi : zw_I) (ml : zw_L) (x s : Int32) : Nat → Int32 → Int64 → Int64
  | 0, _, a => a
  | f + 1, k, a => if mi 36 x.toNatClampNeg ≤ k then a else if mi 37 (6 * x + k).toNatClampNeg = s then q_sum mi ml x s f (k + 1) (a + ml 47 (21 * mi 38 (6 * x + k).toNatClampNeg + mi 39 (6 * x + k).toNatClampNeg).toNatClampNeg) else q_sum mi ml x s f (k + 1) (a + 0)
def q_next (mi : zw_I) (ml : zw_L) (x : Int32) : Int64 := q_sum mi ml x (mi 48 x.toNatClampNeg) 7 0 (ml 47 (21 * x + mi 48 x.toNatClampNeg).toNatClampNeg * 6364136223846793005 + (mi 48 x.toNatClampNeg).toInt64 + 1)
def q_stepL (mi : zw_I) (ml : zw_L) (x : Int32) : zw_L := zw_up ml 47 (21 * x + mi 48 x.toNatClampNeg + 1).toNatClampNeg (p_mix (q_next mi ml x))
def q_step1 (x : Int32) (mi : zw_I) : zw_I := zw_up (zw_up mi 48 x.toNatClampNeg (mi 48 x.toNatClampNeg + 1)) 32 33 (zw_up mi 48 x.toNatClampNeg (mi 48 x.toNatClampNeg + 1) 32 33 + 1)
def q_step5 (wk : Int32) (mi : zw_I) : zw_I := zw_up mi 49 wk.toNatClampNeg (-1)
def q_step4 (wk x : Int32) (mi : zw_I) : zw_I := q_step5 wk (zw_up mi 32 24 (mi 32 24 - mi 34 x.toNatClampNeg))
def q_step3 (wk x : Int32) (mi : zw_I) : zw_I := q_step4 wk x (zw_up mi 32 29 (mi 32 29 + 1))
def q_step2 (wk x : Int32) (mi : zw_I) : zw_I := q_step3 wk x (zw_up mi 51 (mi 32 29).toNatClampNeg x)
def q_stepB (wk x : Int32) (mi : zw_I) : zw_I := if mi 48 x.toNatClampNeg = mi 33 x.toNatClampNeg then q_step2 wk x mi else mi
def q_step (wk x : Int32) (mi : zw_I) : zw_I := q_stepB wk x (q_step1 x mi)
def q_idle (mi : zw_I) : zw_I := zw_up mi 32 31 (mi 32 31 + 1)
def q_awaits2 (mi : zw_I) : zw_I := zw_up mi 32 32 (mi 32 32 + 1)
def q_awaits (x a : Int32) (mi : zw_I) : zw_I := q_awaits2 (zw_up mi 53 (16 * x + mi 38 a.toNatClampNeg).toNatClampNeg (mi 53 (16 * x + mi 38 a.toNatClampNeg).toNatClampNeg + 1))
def q_die5 (mi : zw_I) : zw_I := zw_up mi 32 23 (mi 32 23 + 1)
def q_die4 (x : Int32) (mi : zw_I) : zw_I := q_die5 (zw_up mi 50 (mi 32 23).toNatClampNeg x)
def q_die3 (x : Int32) (mi : zw_I) : zw_I := q_die4 x (zw_up mi 32 24 (mi 32 24 - mi 34 x.toNatClampNeg))
def q_die2 (x : Int32) (mi : zw_I) : zw_I := q_die3 x (zw_up mi 48 x.toNatClampNeg 0)
def q_die1 (x : Int32) (mi : zw_I) : zw_I := q_die2 x (zw_up mi 32 25 (mi 32 25 - 1))
def q_die (wk x : Int32) (mi : zw_I) : zw_I := q_die1 x (zw_up mi 49 wk.toNatClampNeg (-2))
def q_tick4 (wk x : Int32) (q : Int32 × zw_I) (ml : zw_L) : zw_I × zw_L := if q.1 = 0 then (q_step wk x q.2, q_stepL q.2 ml x) else (q_die wk x q.2, ml)
def q_tick3 (wk x : Int32) (mi : zw_I) (ml : zw_L) : zw_I × zw_L := if q_waits mi x 7 0 < 0 then q_tick4 wk x (q_fails wk x mi 9 0) ml else (q_awaits x (q_waits mi x 7 0) mi, ml)
def q_tick2 (wk x : Int32) (mi : zw_I) (ml : zw_L) : zw_I × zw_L := if 0 ≤ x then q_tick3 wk x mi ml else if q_canTake mi = 0 then (q_idle mi, ml) else (q_take wk mi, ml)
def q_tick (wk : Int32) (mi : zw_I) (ml : zw_L) : zw_I × zw_L := q_tick2 wk (mi 49 wk.toNatClampNeg) mi ml
def q_isFin (mi : zw_I) (x : Int32) : Int32 := if mi 48 x.toNatClampNeg = mi 33 x.toNatClampNeg then 1 else 0
theorem q_isFin_01 {mi : zw_I} {x : Int32} : q_isFin mi x = 0 ∨ q_isFin mi x = 1 := by
  unfold q_isFin
  split
  · exact Or.inr rfl
  · exact Or.inl rfl
def q_stuck (mi : zw_I) (wk : Int32) : Nat → Int32 → Int32 → Int32
  | 0, s, _ => s
  | f + 1, s, k => if wk ≤ k then s else if s = 0 then s else if mi 49 k.toNatClampNeg = -2 then q_stuck mi wk f 1 (k + 1) else if mi 49 k.toNatClampNeg = -1 then (if q_canTake mi = 0 then q_stuck mi wk f 1 (k + 1) else q_stuck mi wk f 0 (k + 1)) else if q_waits mi (mi 49 k.toNatClampNeg) 7 0 < 0 then q_stuck mi wk f 0 (k + 1) else q_stuck mi wk f 1 (k + 1)
def q_end2 (mi : zw_I) (wk : Int32) : Int32 := if mi 32 25 = 0 then -1 else if q_stuck mi wk 17 1 0 = 0 then (if mi 32 30 = 20000 then -3 else 2) else -2
def q_end (mi : zw_I) (wk : Int32) : Int32 := if mi 32 29 = mi 32 1 then 0 else if mi 32 16 = -1 then q_end2 mi wk else if q_isFin mi (mi 32 16) = 0 then q_end2 mi wk else 1
def q_beg1 : Nat → Int32 → zw_I → zw_L → zw_I × zw_L
  | 0, _, mi, ml => (mi, ml)
  | f + 1, k, mi, ml => if mi 32 1 ≤ k then (mi, ml) else q_beg1 f (k + 1) (zw_up (zw_up (zw_up mi 48 k.toNatClampNeg 0) 52 k.toNatClampNeg 0) 50 k.toNatClampNeg k) (zw_up ml 47 (21 * k).toNatClampNeg (ml 35 k.toNatClampNeg))
def q_beg2 : Nat → Int32 → zw_I → zw_I
  | 0, _, mi => mi
  | f + 1, k, mi => if 256 ≤ k then mi else q_beg2 f (k + 1) (zw_up mi 53 k.toNatClampNeg 0)
def q_beg3 (wk : Int32) : Nat → Int32 → zw_I → zw_I
  | 0, _, mi => mi
  | f + 1, k, mi => if wk ≤ k then mi else q_beg3 wk f (k + 1) (zw_up mi 49 k.toNatClampNeg (-1))
def q_beg4 : Nat → Int32 → zw_I → zw_I
  | 0, _, mi => mi
  | f + 1, k, mi => if mi 32 15 ≤ k then mi else q_beg4 f (k + 1) (zw_up mi 44 k.toNatClampNeg (mi 43 k.toNatClampNeg))
def q_beg5 (wk : Int32) (mi : zw_I) : zw_I := zw_up (zw_up (zw_up (zw_up (zw_up (zw_up (zw_up (zw_up (zw_up mi 32 23 (mi 32 1)) 32 24 0) 32 25 wk) 32 29 0) 32 30 0) 32 31 0) 32 32 0) 32 33 0) 32 34 0
def q_begZ (wk : Int32) (mi : zw_I) : zw_I := q_beg5 wk (q_beg4 9 0 (q_beg3 wk 17 0 (q_beg2 257 0 mi)))
def q_begin (wk : Int32) (mi : zw_I) (ml : zw_L) : zw_I × zw_L := (q_begZ wk (q_beg1 17 0 mi ml).1, (q_beg1 17 0 mi ml).2)
theorem q_beg2_off {a b : Nat} (h : a ≠ 53) : ∀ (f : Nat) (k : Int32) (mi : zw_I), q_beg2 f k mi a b = mi a b
  | 0, _, _ => rfl
  | f + 1, k, mi => by
    rw [q_beg2]
    split
    · rfl
    · rw [q_beg2_off h f]; simp [zw_up, h]
theorem q_beg3_off {wk : Int32} {a b : Nat} (h : a ≠ 49) : ∀ (f : Nat) (k : Int32) (mi : zw_I), q_beg3 wk f k mi a b = mi a b
  | 0, _, _ => rfl
  | f + 1, k, mi => by
    rw [q_beg3]
    split
    · rfl
    · rw [q_beg3_off h f]; simp [zw_up, h]
def q_vals (e : Int32) : Nat → Int32 → zw_I → zw_L → zw_I × zw_L
  | 0, _, mi, ml => (mi, ml)
  | f + 1, k, mi, ml => if mi 32 1 ≤ k then (mi, ml) else if e < 0 then (mi, ml) else q_vals e f (k + 1) (zw_up mi 45 k.toNatClampNeg (q_isFin mi k)) (zw_up ml 46 k.toNatClampNeg (ml 47 (21 * k + zw_up mi 45 k.toNatClampNeg (q_isFin mi k) 33 k.toNatClampNeg).toNatClampNeg))
/-- the worker at a place among those that live: place, worker -/
def q_find (mi : zw_I) : Nat → Int32 → Int32 → Int32
  | 0, _, w => w
  | f + 1, pl, w => if mi 49 w.toNatClampNeg = -2 then q_find mi f (pl - 0) (w + 1) else if pl ≤ 0 then w else q_find mi f (pl - 1) (w + 1)
def q_place (mi : zw_I) (x : Int64) : Int32 := ((x.toUInt64 >>> ((33 : Int32).toInt64.toUInt64 &&& Int64.toUInt64 63)).toInt64 - (x.toUInt64 >>> ((33 : Int32).toInt64.toUInt64 &&& Int64.toUInt64 63)).toInt64 / (mi 32 25).toInt64 * (mi 32 25).toInt64).toInt32
def q_t1 (mi : zw_I) : zw_I := zw_up mi 32 30 (mi 32 30 + 1)
def q_loop (wk : Int32) : Nat → Int64 → Int32 → zw_I → zw_L → Int32 × zw_I × zw_L
  | 0, _, e, mi, ml => (e, mi, ml)
  | f + 1, x, e, mi, ml => if e = 2 then q_loop wk f (p_x x) (q_end (q_tick (q_find mi 17 (q_place mi (p_x x)) 0) (q_t1 mi) ml).1 wk) (q_tick (q_find mi 17 (q_place mi (p_x x)) 0) (q_t1 mi) ml).1 (q_tick (q_find mi 17 (q_place mi (p_x x)) 0) (q_t1 mi) ml).2 else (e, mi, ml)
def q_live (mi : zw_I) : zw_I := zw_up mi 32 35 (mi 32 25)
def q_runZ (q : Int32 × zw_I × zw_L) : Int32 × zw_I × zw_L := (q.1, q_vals q.1 17 0 (q_live q.2.1) q.2.2)
def q_run0 (wk : Int32) (x : Int64) (mi : zw_I) (ml : zw_L) : Int32 × zw_I × zw_L := q_loop wk 20001 x (q_end (q_begin wk mi ml).1 wk) (q_begin wk mi ml).1 (q_begin wk mi ml).2
def q_run (wk : Int32) (x : Int64) (mi : zw_I) (ml : zw_L) : Int32 × zw_I × zw_L := if p_within wk 1 16 = 0 then (0, zw_up mi 32 0 1, ml) else q_runZ (q_run0 wk x (zw_up mi 32 0 0) ml)
def q_at (mi : zw_I) (ml : zw_L) (x : Int32) : Int64 × zw_I := if q_isShare mi x = 0 then (0, zw_up mi 32 0 1) else if mi 45 x.toNatClampNeg = 0 then (0, zw_up mi 32 0 2) else (ml 46 x.toNatClampNeg, zw_up mi 32 0 0)
def q_order (mi : zw_I) (x : Int32) : Int32 × zw_I := if p_within x 0 (mi 32 29 - 1) = 0 then (0, zw_up mi 32 0 1) else (zw_up mi 32 0 0 51 x.toNatClampNeg, zw_up mi 32 0 0)
def q_begun (mi : zw_I) (x : Int32) : Int32 × zw_I := if q_isShare mi x = 0 then (0, zw_up mi 32 0 1) else (zw_up mi 32 0 0 52 x.toNatClampNeg, zw_up mi 32 0 0)
def q_waited (mi : zw_I) (x y : Int32) : Int32 × zw_I := if q_isShare mi x = 0 then (0, zw_up mi 32 0 1) else if q_isShare mi y = 0 then (0, zw_up mi 32 0 1) else (zw_up mi 32 0 0 53 (16 * x + y).toNatClampNeg, zw_up mi 32 0 0)
def q_count (mi : zw_I) : Nat → Int32 → Int32 → Int32
  | 0, a, _ => a
  | f + 1, a, k => if mi 32 1 ≤ k then a else if mi 45 k.toNatClampNeg = 0 then q_count mi f (a + 0) (k + 1) else q_count mi f (a + 1) (k + 1)
def q_toldA (mi : zw_I) (x a : Int32) : Int32 := if x = 0 then mi 32 1 else if x = 1 then mi 32 2 else if x = 2 then mi 32 15 else if x = 3 then mi 32 16 else if x = 4 then mi 32 30 else if x = 5 then mi 32 31 else if x = 6 then mi 32 32 else if x = 7 then mi 32 33 else if x = 8 then mi 32 34 else if x = 9 then mi 32 35 else if x = 10 then mi 32 29 else if x = 11 then a else -1
def q_told (mi : zw_I) (x : Int32) : Int32 := q_toldA mi x (q_count mi 17 0 0)
def q_clr1 : Nat → Int32 → zw_I → zw_L → zw_I × zw_L
  | 0, _, mi, ml => (mi, ml)
  | f + 1, k, mi, ml => if 16 ≤ k then (mi, ml) else q_clr1 f (k + 1) (zw_up (zw_up (zw_up (zw_up (zw_up (zw_up mi 33 k.toNatClampNeg 1) 34 k.toNatClampNeg 1) 36 k.toNatClampNeg 0) 45 k.toNatClampNeg 0) 48 k.toNatClampNeg 0) 52 k.toNatClampNeg 0) (zw_up ml 35 k.toNatClampNeg k.toInt64)
def q_clr3 (mi : zw_I) : zw_I := zw_up (zw_up (zw_up (zw_up (zw_up (zw_up (zw_up mi 32 29 0) 32 30 0) 32 31 0) 32 32 0) 32 33 0) 32 34 0) 32 35 0
def q_clr0 (mi : zw_I) : zw_I := zw_up (zw_up (zw_up mi 32 0 0) 32 15 0) 32 16 (-1)
def q_clear (mi : zw_I) (ml : zw_L) : zw_I × zw_L := (q_clr3 (q_beg2 257 0 (q_clr1 17 0 (q_clr0 mi) ml).1), (q_clr1 17 0 (q_clr0 mi) ml).2)
/-- what keeps the reference's indexes in their ranges -/
def zm_N (mi : zw_I) : Prop := (∀ i : Nat, i < 16 → ∃ w : Nat, w ≤ 6 ∧ mi 36 i = nI w) ∧ (∀ k : Nat, k < 96 → vp_in (mi 38 k) 16 ∧ vp_in (mi 39 k) 21) ∧ ∃ w : Nat, w ≤ 8 ∧ mi 32 15 = nI w
theorem zm_at {x : Int32} (h : vp_in x 16) (k : Nat) (hk : k < 6) : vp_in (6 * x + nI k) 96 := by
  obtain ⟨j, hj, rfl⟩ := vp_in_of h (by decide)
  rw [show (6 : Int32) = nI 6 from rfl, pk_mul, nI_add]
  exact vp_in_nI (by omega) (by decide)
theorem zm_21 {x y : Int32} (h : vp_in x 16) (hy : vp_in y 21) : vp_in (21 * x + y) 336 := by
  obtain ⟨j, hj, rfl⟩ := vp_in_of h (by decide)
  obtain ⟨k, hk, rfl⟩ := vp_in_of hy (by decide)
  rw [show (21 : Int32) = nI 21 from rfl, pk_mul, nI_add]
  exact vp_in_nI (by omega) (by decide)
theorem zm_21' {x y : Int32} (h : vp_in x 16) (hy : vp_in (y + 1) 21) (hy0 : vp_in y 21) : vp_in (21 * x + y + 1) 336 := by
  obtain ⟨j, hj, rfl⟩ := vp_in_of h (by decide)
  obtain ⟨k, hk, rfl⟩ := vp_in_of hy0 (by decide)
  rw [nI_1] at hy
  have hk1 : k + 1 < 21 := by
    have := vp_in_iff.mp hy
    rw [nI_toInt (by omega)] at this
    omega
  rw [show (21 : Int32) = nI 21 from rfl, pk_mul, nI_add, nI_1]
  exact vp_in_nI (by omega) (by decide)
theorem zm_210 {x : Int32} (h : vp_in x 16) : vp_in (21 * x) 336 := by
  obtain ⟨j, hj, rfl⟩ := vp_in_of h (by decide)
  rw [show (21 : Int32) = nI 21 from rfl, pk_mul]
  exact vp_in_nI (by omega) (by decide)
theorem zm_16 {x y : Int32} (h : vp_in x 16) (hy : vp_in y 16) : vp_in (16 * x + y) 256 := by
  obtain ⟨j, hj, rfl⟩ := vp_in_of h (by decide)
  obtain ⟨k, hk, rfl⟩ := vp_in_of hy (by decide)
  rw [show (16 : Int32) = nI 16 from rfl, pk_mul, nI_add]
  exact vp_in_nI (by omega) (by decide)
/-- .. of the share x at which a worker works -/
def zm_T (mi : zw_I) (x : Int32) : Prop := vp_in (mi 48 x.toNatClampNeg) 21 ∧ vp_in (mi 48 x.toNatClampNeg + 1) 21 ∧ vp_in (mi 32 29) 16 ∧ vp_in (mi 32 23) 16
theorem q_fails_off {w x : Int32} {mi : zw_I} {a b : Nat} (h1 : a ≠ 44) : ∀ (f : Nat) (k : Int32), (q_fails w x mi f k).2 a b = mi a b
  | 0, _ => rfl
  | f + 1, k => by
    rw [q_fails]
    split
    · rfl
    · split
      · exact q_fails_off h1 f (k + 1)
      · split
        · split
          · split
            · simp [zw_up, h1]
            · exact q_fails_off h1 f (k + 1)
          · exact q_fails_off h1 f (k + 1)
        · exact q_fails_off h1 f (k + 1)
theorem zm_N_same {mi m : zw_I} (h : ∀ a b, a ≠ 44 → m a b = mi a b) (hN : zm_N mi) : zm_N m := by
  obtain ⟨h1, h2, h3⟩ := hN
  refine ⟨fun i hi => by rw [h 36 i (by decide)]; exact h1 i hi, fun k hk => by rw [h 38 k (by decide), h 39 k (by decide)]; exact h2 k hk, by rw [h 32 15 (by decide)]; exact h3⟩
theorem zm_T_same {mi m : zw_I} {x : Int32} (h : ∀ a b, a ≠ 44 → m a b = mi a b) (hT : zm_T mi x) : zm_T m x := by
  unfold zm_T
  rw [h 48 _ (by decide), h 32 29 (by decide), h 32 23 (by decide)]
  exact hT
