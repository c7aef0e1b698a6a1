/-- what 'ending' needs of the reference's state, with w workers -/
def zm_E (w : Nat) (mi : zw_I) : Prop := zm_N mi ∧ vp_in (mi 50 (0 : Int32).toNatClampNeg) 16 ∧ (mi 32 16 = -1 ∨ vp_in (mi 32 16) 16) ∧ ∀ k : Nat, k < w → mi 49 k = -2 ∨ mi 49 k = -1 ∨ vp_in (mi 49 k) 16
/-- the search for the worker at a place ends within the workers -/
def zq_F (mi : zw_I) : Nat → Int32 → Nat → Prop
  | 0, _, _ => False
  | f + 1, pl, i => i < 16 ∧ (mi 49 i = -2 → zq_F mi f (pl - 0) (i + 1)) ∧ (¬ mi 49 i = -2 → ¬ pl ≤ 0 → zq_F mi f (pl - 1) (i + 1))
/-- what a tick needs -/
def zq_T (mi : zw_I) (wk : Int32) : Prop := vp_in wk 16 ∧ zm_N mi ∧ vp_in (mi 50 (0 : Int32).toNatClampNeg) 16 ∧ (¬ q_canTake mi = 0 → ∃ q : Nat, q < 16 ∧ mi 32 23 = nI (q + 1)) ∧ (0 ≤ mi 49 wk.toNatClampNeg → vp_in (mi 49 wk.toNatClampNeg) 16 ∧ (¬ q_waits mi (mi 49 wk.toNatClampNeg) 7 0 < 0 → vp_in (q_waits mi (mi 49 wk.toNatClampNeg) 7 0) 96) ∧ zm_T mi (mi 49 wk.toNatClampNeg))
def q_who (mi : zw_I) (x : Int64) : Int32 := q_find mi 17 (q_place mi x) 0
/-- an invariant of a run of the reference: w workers, n shares -/
def zq_K (n w : Nat) (G : zw_I → Prop) : Prop := (∀ mi : zw_I, G mi → zm_E w mi ∧ mi 32 1 = nI n ∧ ∀ k : Nat, k < n → vp_in (mi 33 k) 21) ∧ ∀ (mi : zw_I) (ml : zw_L) (x : Int64), G mi → q_end mi (nI w) = 2 → ¬ (mi 32 25).toInt64 = 0 ∧ zq_F mi 17 (q_place mi x) 0 ∧ zq_T (q_t1 mi) (q_who mi x) ∧ G (q_tick (q_who mi x) (q_t1 mi) ml).1 ∧ (q_tick (q_who mi x) (q_t1 mi) ml).1 32 30 = mi 32 30 + 1
theorem q_end_ticks {mi : zw_I} {wk : Int32} (h : q_end mi wk = 2) : ¬ mi 32 30 = 20000 := by
  intro e
  unfold q_end q_end2 at h
  simp only [e, if_true] at h
  repeat (split at h <;> try (revert h; decide))
